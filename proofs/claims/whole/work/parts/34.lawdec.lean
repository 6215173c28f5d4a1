set_option maxRecDepth 20000 in
theorem dL_law_836 : decode code 836 = .ok (.iconst 2, 1) := by decide +kernel
set_option maxRecDepth 20000 in
theorem dL_law_837 : decode code 837 = .ok (.iadd, 1) := by decide +kernel
set_option maxRecDepth 20000 in
theorem dL_law_838 : decode code 838 = .ok (.iaload, 1) := by decide +kernel
set_option maxRecDepth 20000 in
theorem dL_law_839 : decode code 839 = .ok (.invokevirtual 100, 3) := by decide +kernel
set_option maxRecDepth 20000 in
theorem dL_law_842 : decode code 842 = .ok (.if_icmp .eq 631, 3) := by decide +kernel
set_option maxRecDepth 20000 in
theorem dL_law_845 : decode code 845 = .ok (.iconst 0, 1) := by decide +kernel
set_option maxRecDepth 20000 in
theorem dL_law_846 : decode code 846 = .ok (.ireturn, 1) := by decide +kernel
set_option maxRecDepth 20000 in
theorem dL_law_847 : decode code 847 = .ok (.aload_n 1, 1) := by decide +kernel
set_option maxRecDepth 20000 in
theorem dL_law_848 : decode code 848 = .ok (.aload_n 0, 1) := by decide +kernel
set_option maxRecDepth 20000 in
theorem dL_law_849 : decode code 849 = .ok (.iload_n 3, 1) := by decide +kernel
set_option maxRecDepth 20000 in
theorem dL_law_850 : decode code 850 = .ok (.iconst 1, 1) := by decide +kernel
set_option maxRecDepth 20000 in
theorem dL_law_851 : decode code 851 = .ok (.iadd, 1) := by decide +kernel
set_option maxRecDepth 20000 in
theorem dL_law_852 : decode code 852 = .ok (.iaload, 1) := by decide +kernel
set_option maxRecDepth 20000 in
theorem dL_law_853 : decode code 853 = .ok (.aload_n 0, 1) := by decide +kernel
set_option maxRecDepth 20000 in
theorem dL_law_854 : decode code 854 = .ok (.iload_n 3, 1) := by decide +kernel
set_option maxRecDepth 20000 in
theorem dL_law_855 : decode code 855 = .ok (.iconst 2, 1) := by decide +kernel
set_option maxRecDepth 20000 in
theorem dL_law_856 : decode code 856 = .ok (.iadd, 1) := by decide +kernel
set_option maxRecDepth 20000 in
theorem dL_law_857 : decode code 857 = .ok (.iaload, 1) := by decide +kernel
set_option maxRecDepth 20000 in
theorem dL_law_858 : decode code 858 = .ok (.aload_n 0, 1) := by decide +kernel
set_option maxRecDepth 20000 in
theorem dL_law_859 : decode code 859 = .ok (.iload_n 3, 1) := by decide +kernel
set_option maxRecDepth 20000 in
theorem dL_law_860 : decode code 860 = .ok (.iconst 3, 1) := by decide +kernel
set_option maxRecDepth 20000 in
theorem dL_law_861 : decode code 861 = .ok (.iadd, 1) := by decide +kernel
set_option maxRecDepth 20000 in
theorem dL_law_862 : decode code 862 = .ok (.iaload, 1) := by decide +kernel
set_option maxRecDepth 20000 in
theorem dL_law_863 : decode code 863 = .ok (.invokevirtual 101, 3) := by decide +kernel
set_option maxRecDepth 20000 in
theorem dL_law_866 : decode code 866 = .ok (.aload_n 2, 1) := by decide +kernel
set_option maxRecDepth 20000 in
theorem dL_law_867 : decode code 867 = .ok (.aload_n 0, 1) := by decide +kernel
set_option maxRecDepth 20000 in
theorem dL_law_868 : decode code 868 = .ok (.iload_n 3, 1) := by decide +kernel
set_option maxRecDepth 20000 in
theorem dL_law_869 : decode code 869 = .ok (.iconst 1, 1) := by decide +kernel
set_option maxRecDepth 20000 in
theorem dL_law_870 : decode code 870 = .ok (.iadd, 1) := by decide +kernel
set_option maxRecDepth 20000 in
theorem dL_law_871 : decode code 871 = .ok (.iaload, 1) := by decide +kernel
set_option maxRecDepth 20000 in
theorem dL_law_872 : decode code 872 = .ok (.aload_n 0, 1) := by decide +kernel
set_option maxRecDepth 20000 in
theorem dL_law_873 : decode code 873 = .ok (.iload_n 3, 1) := by decide +kernel
set_option maxRecDepth 20000 in
theorem dL_law_874 : decode code 874 = .ok (.iconst 2, 1) := by decide +kernel
set_option maxRecDepth 20000 in
theorem dL_law_875 : decode code 875 = .ok (.iadd, 1) := by decide +kernel
set_option maxRecDepth 20000 in
theorem dL_law_876 : decode code 876 = .ok (.iaload, 1) := by decide +kernel
set_option maxRecDepth 20000 in
theorem dL_law_877 : decode code 877 = .ok (.aload_n 0, 1) := by decide +kernel
set_option maxRecDepth 20000 in
theorem dL_law_878 : decode code 878 = .ok (.iload_n 3, 1) := by decide +kernel
set_option maxRecDepth 20000 in
theorem dL_law_879 : decode code 879 = .ok (.iconst 3, 1) := by decide +kernel
set_option maxRecDepth 20000 in
theorem dL_law_880 : decode code 880 = .ok (.iadd, 1) := by decide +kernel
set_option maxRecDepth 20000 in
theorem dL_law_881 : decode code 881 = .ok (.iaload, 1) := by decide +kernel
set_option maxRecDepth 20000 in
theorem dL_law_882 : decode code 882 = .ok (.invokevirtual 104, 3) := by decide +kernel
set_option maxRecDepth 20000 in
theorem dL_law_885 : decode code 885 = .ok (.if_icmp .eq 588, 3) := by decide +kernel
set_option maxRecDepth 20000 in
theorem dL_law_888 : decode code 888 = .ok (.iconst 0, 1) := by decide +kernel
set_option maxRecDepth 20000 in
theorem dL_law_889 : decode code 889 = .ok (.ireturn, 1) := by decide +kernel
set_option maxRecDepth 20000 in
theorem dL_law_890 : decode code 890 = .ok (.aload_n 1, 1) := by decide +kernel
set_option maxRecDepth 20000 in
theorem dL_law_891 : decode code 891 = .ok (.aload_n 0, 1) := by decide +kernel
set_option maxRecDepth 20000 in
theorem dL_law_892 : decode code 892 = .ok (.iload_n 3, 1) := by decide +kernel
set_option maxRecDepth 20000 in
theorem dL_law_893 : decode code 893 = .ok (.iconst 1, 1) := by decide +kernel
set_option maxRecDepth 20000 in
theorem dL_law_894 : decode code 894 = .ok (.iadd, 1) := by decide +kernel
set_option maxRecDepth 20000 in
theorem dL_law_895 : decode code 895 = .ok (.iaload, 1) := by decide +kernel
set_option maxRecDepth 20000 in
theorem dL_law_896 : decode code 896 = .ok (.aload_n 0, 1) := by decide +kernel
set_option maxRecDepth 20000 in
theorem dL_law_897 : decode code 897 = .ok (.iload_n 3, 1) := by decide +kernel
set_option maxRecDepth 20000 in
theorem dL_law_898 : decode code 898 = .ok (.iconst 2, 1) := by decide +kernel
set_option maxRecDepth 20000 in
theorem dL_law_899 : decode code 899 = .ok (.iadd, 1) := by decide +kernel
set_option maxRecDepth 20000 in
theorem dL_law_900 : decode code 900 = .ok (.iaload, 1) := by decide +kernel
set_option maxRecDepth 20000 in
theorem dL_law_901 : decode code 901 = .ok (.aload_n 0, 1) := by decide +kernel
set_option maxRecDepth 20000 in
theorem dL_law_902 : decode code 902 = .ok (.iload_n 3, 1) := by decide +kernel
set_option maxRecDepth 20000 in
theorem dL_law_903 : decode code 903 = .ok (.iconst 3, 1) := by decide +kernel
set_option maxRecDepth 20000 in
theorem dL_law_904 : decode code 904 = .ok (.iadd, 1) := by decide +kernel
set_option maxRecDepth 20000 in
theorem dL_law_905 : decode code 905 = .ok (.iaload, 1) := by decide +kernel
set_option maxRecDepth 20000 in
theorem dL_law_906 : decode code 906 = .ok (.invokevirtual 105, 3) := by decide +kernel
set_option maxRecDepth 20000 in
theorem dL_law_909 : decode code 909 = .ok (.aload_n 2, 1) := by decide +kernel
set_option maxRecDepth 20000 in
theorem dL_law_910 : decode code 910 = .ok (.aload_n 0, 1) := by decide +kernel
set_option maxRecDepth 20000 in
theorem dL_law_911 : decode code 911 = .ok (.iload_n 3, 1) := by decide +kernel
set_option maxRecDepth 20000 in
theorem dL_law_912 : decode code 912 = .ok (.iconst 1, 1) := by decide +kernel
set_option maxRecDepth 20000 in
theorem dL_law_913 : decode code 913 = .ok (.iadd, 1) := by decide +kernel
set_option maxRecDepth 20000 in
theorem dL_law_914 : decode code 914 = .ok (.iaload, 1) := by decide +kernel
set_option maxRecDepth 20000 in
theorem dL_law_915 : decode code 915 = .ok (.aload_n 0, 1) := by decide +kernel
set_option maxRecDepth 20000 in
theorem dL_law_916 : decode code 916 = .ok (.iload_n 3, 1) := by decide +kernel
set_option maxRecDepth 20000 in
theorem dL_law_917 : decode code 917 = .ok (.iconst 2, 1) := by decide +kernel
set_option maxRecDepth 20000 in
theorem dL_law_918 : decode code 918 = .ok (.iadd, 1) := by decide +kernel
set_option maxRecDepth 20000 in
theorem dL_law_919 : decode code 919 = .ok (.iaload, 1) := by decide +kernel
set_option maxRecDepth 20000 in
theorem dL_law_920 : decode code 920 = .ok (.aload_n 0, 1) := by decide +kernel
set_option maxRecDepth 20000 in
theorem dL_law_921 : decode code 921 = .ok (.iload_n 3, 1) := by decide +kernel
set_option maxRecDepth 20000 in
theorem dL_law_922 : decode code 922 = .ok (.iconst 3, 1) := by decide +kernel
set_option maxRecDepth 20000 in
theorem dL_law_923 : decode code 923 = .ok (.iadd, 1) := by decide +kernel
set_option maxRecDepth 20000 in
theorem dL_law_924 : decode code 924 = .ok (.iaload, 1) := by decide +kernel
set_option maxRecDepth 20000 in
theorem dL_law_925 : decode code 925 = .ok (.invokevirtual 108, 3) := by decide +kernel
set_option maxRecDepth 20000 in
theorem dL_law_928 : decode code 928 = .ok (.if_icmp .eq 545, 3) := by decide +kernel
set_option maxRecDepth 20000 in
theorem dL_law_931 : decode code 931 = .ok (.iconst 0, 1) := by decide +kernel
set_option maxRecDepth 20000 in
theorem dL_law_932 : decode code 932 = .ok (.ireturn, 1) := by decide +kernel
set_option maxRecDepth 20000 in
theorem dL_law_933 : decode code 933 = .ok (.aload_n 1, 1) := by decide +kernel
set_option maxRecDepth 20000 in
theorem dL_law_934 : decode code 934 = .ok (.aload_n 0, 1) := by decide +kernel
set_option maxRecDepth 20000 in
theorem dL_law_935 : decode code 935 = .ok (.iload_n 3, 1) := by decide +kernel
set_option maxRecDepth 20000 in
theorem dL_law_936 : decode code 936 = .ok (.iconst 1, 1) := by decide +kernel
set_option maxRecDepth 20000 in
theorem dL_law_937 : decode code 937 = .ok (.iadd, 1) := by decide +kernel
set_option maxRecDepth 20000 in
theorem dL_law_938 : decode code 938 = .ok (.iaload, 1) := by decide +kernel
set_option maxRecDepth 20000 in
theorem dL_law_939 : decode code 939 = .ok (.aload_n 0, 1) := by decide +kernel
set_option maxRecDepth 20000 in
theorem dL_law_940 : decode code 940 = .ok (.iload_n 3, 1) := by decide +kernel
set_option maxRecDepth 20000 in
theorem dL_law_941 : decode code 941 = .ok (.iconst 2, 1) := by decide +kernel
set_option maxRecDepth 20000 in
theorem dL_law_942 : decode code 942 = .ok (.iadd, 1) := by decide +kernel
set_option maxRecDepth 20000 in
theorem dL_law_943 : decode code 943 = .ok (.iaload, 1) := by decide +kernel
set_option maxRecDepth 20000 in
theorem dL_law_944 : decode code 944 = .ok (.aload_n 0, 1) := by decide +kernel
set_option maxRecDepth 20000 in
theorem dL_law_945 : decode code 945 = .ok (.iload_n 3, 1) := by decide +kernel
set_option maxRecDepth 20000 in
theorem dL_law_946 : decode code 946 = .ok (.iconst 3, 1) := by decide +kernel
set_option maxRecDepth 20000 in
theorem dL_law_947 : decode code 947 = .ok (.iadd, 1) := by decide +kernel
set_option maxRecDepth 20000 in
theorem dL_law_948 : decode code 948 = .ok (.iaload, 1) := by decide +kernel
set_option maxRecDepth 20000 in
theorem dL_law_949 : decode code 949 = .ok (.aload_n 0, 1) := by decide +kernel
set_option maxRecDepth 20000 in
theorem dL_law_950 : decode code 950 = .ok (.iload_n 3, 1) := by decide +kernel
set_option maxRecDepth 20000 in
theorem dL_law_951 : decode code 951 = .ok (.iconst 4, 1) := by decide +kernel
set_option maxRecDepth 20000 in
theorem dL_law_952 : decode code 952 = .ok (.iadd, 1) := by decide +kernel
set_option maxRecDepth 20000 in
theorem dL_law_953 : decode code 953 = .ok (.iaload, 1) := by decide +kernel
set_option maxRecDepth 20000 in
theorem dL_law_954 : decode code 954 = .ok (.aload_n 0, 1) := by decide +kernel
set_option maxRecDepth 20000 in
theorem dL_law_955 : decode code 955 = .ok (.iload_n 3, 1) := by decide +kernel
set_option maxRecDepth 20000 in
theorem dL_law_956 : decode code 956 = .ok (.iconst 5, 1) := by decide +kernel
set_option maxRecDepth 20000 in
theorem dL_law_957 : decode code 957 = .ok (.iadd, 1) := by decide +kernel
set_option maxRecDepth 20000 in
theorem dL_law_958 : decode code 958 = .ok (.iaload, 1) := by decide +kernel
set_option maxRecDepth 20000 in
theorem dL_law_959 : decode code 959 = .ok (.invokevirtual 109, 3) := by decide +kernel
set_option maxRecDepth 20000 in
theorem dL_law_962 : decode code 962 = .ok (.aload_n 2, 1) := by decide +kernel
set_option maxRecDepth 20000 in
theorem dL_law_963 : decode code 963 = .ok (.aload_n 0, 1) := by decide +kernel
set_option maxRecDepth 20000 in
theorem dL_law_964 : decode code 964 = .ok (.iload_n 3, 1) := by decide +kernel
set_option maxRecDepth 20000 in
theorem dL_law_965 : decode code 965 = .ok (.iconst 1, 1) := by decide +kernel
set_option maxRecDepth 20000 in
theorem dL_law_966 : decode code 966 = .ok (.iadd, 1) := by decide +kernel
set_option maxRecDepth 20000 in
theorem dL_law_967 : decode code 967 = .ok (.iaload, 1) := by decide +kernel
set_option maxRecDepth 20000 in
theorem dL_law_968 : decode code 968 = .ok (.aload_n 0, 1) := by decide +kernel
set_option maxRecDepth 20000 in
theorem dL_law_969 : decode code 969 = .ok (.iload_n 3, 1) := by decide +kernel
set_option maxRecDepth 20000 in
theorem dL_law_970 : decode code 970 = .ok (.iconst 2, 1) := by decide +kernel
set_option maxRecDepth 20000 in
theorem dL_law_971 : decode code 971 = .ok (.iadd, 1) := by decide +kernel
set_option maxRecDepth 20000 in
theorem dL_law_972 : decode code 972 = .ok (.iaload, 1) := by decide +kernel
set_option maxRecDepth 20000 in
theorem dL_law_973 : decode code 973 = .ok (.aload_n 0, 1) := by decide +kernel
set_option maxRecDepth 20000 in
theorem dL_law_974 : decode code 974 = .ok (.iload_n 3, 1) := by decide +kernel
set_option maxRecDepth 20000 in
theorem dL_law_975 : decode code 975 = .ok (.iconst 3, 1) := by decide +kernel
set_option maxRecDepth 20000 in
theorem dL_law_976 : decode code 976 = .ok (.iadd, 1) := by decide +kernel
set_option maxRecDepth 20000 in
theorem dL_law_977 : decode code 977 = .ok (.iaload, 1) := by decide +kernel
set_option maxRecDepth 20000 in
theorem dL_law_978 : decode code 978 = .ok (.aload_n 0, 1) := by decide +kernel
set_option maxRecDepth 20000 in
theorem dL_law_979 : decode code 979 = .ok (.iload_n 3, 1) := by decide +kernel
set_option maxRecDepth 20000 in
theorem dL_law_980 : decode code 980 = .ok (.iconst 4, 1) := by decide +kernel
set_option maxRecDepth 20000 in
theorem dL_law_981 : decode code 981 = .ok (.iadd, 1) := by decide +kernel
set_option maxRecDepth 20000 in
theorem dL_law_982 : decode code 982 = .ok (.iaload, 1) := by decide +kernel
set_option maxRecDepth 20000 in
theorem dL_law_983 : decode code 983 = .ok (.aload_n 0, 1) := by decide +kernel
set_option maxRecDepth 20000 in
theorem dL_law_984 : decode code 984 = .ok (.iload_n 3, 1) := by decide +kernel
set_option maxRecDepth 20000 in
theorem dL_law_985 : decode code 985 = .ok (.iconst 5, 1) := by decide +kernel
set_option maxRecDepth 20000 in
theorem dL_law_986 : decode code 986 = .ok (.iadd, 1) := by decide +kernel
set_option maxRecDepth 20000 in
theorem dL_law_987 : decode code 987 = .ok (.iaload, 1) := by decide +kernel
set_option maxRecDepth 20000 in
theorem dL_law_988 : decode code 988 = .ok (.invokevirtual 113, 3) := by decide +kernel
set_option maxRecDepth 20000 in
theorem dL_law_991 : decode code 991 = .ok (.lcmp, 1) := by decide +kernel
set_option maxRecDepth 20000 in
theorem dL_law_992 : decode code 992 = .ok (.ifCond .eq 481, 3) := by decide +kernel
set_option maxRecDepth 20000 in
theorem dL_law_995 : decode code 995 = .ok (.iconst 0, 1) := by decide +kernel
set_option maxRecDepth 20000 in
theorem dL_law_996 : decode code 996 = .ok (.ireturn, 1) := by decide +kernel
set_option maxRecDepth 20000 in
theorem dL_law_997 : decode code 997 = .ok (.aload_n 1, 1) := by decide +kernel
set_option maxRecDepth 20000 in
theorem dL_law_998 : decode code 998 = .ok (.aload_n 0, 1) := by decide +kernel
set_option maxRecDepth 20000 in
theorem dL_law_999 : decode code 999 = .ok (.iload_n 3, 1) := by decide +kernel
set_option maxRecDepth 20000 in
theorem dL_law_1000 : decode code 1000 = .ok (.iconst 1, 1) := by decide +kernel
set_option maxRecDepth 20000 in
theorem dL_law_1001 : decode code 1001 = .ok (.iadd, 1) := by decide +kernel
set_option maxRecDepth 20000 in
theorem dL_law_1002 : decode code 1002 = .ok (.iaload, 1) := by decide +kernel
set_option maxRecDepth 20000 in
theorem dL_law_1003 : decode code 1003 = .ok (.aload_n 0, 1) := by decide +kernel
set_option maxRecDepth 20000 in
theorem dL_law_1004 : decode code 1004 = .ok (.iload_n 3, 1) := by decide +kernel
set_option maxRecDepth 20000 in
theorem dL_law_1005 : decode code 1005 = .ok (.iconst 2, 1) := by decide +kernel
set_option maxRecDepth 20000 in
theorem dL_law_1006 : decode code 1006 = .ok (.iadd, 1) := by decide +kernel
set_option maxRecDepth 20000 in
theorem dL_law_1007 : decode code 1007 = .ok (.iaload, 1) := by decide +kernel
set_option maxRecDepth 20000 in
theorem dL_law_1008 : decode code 1008 = .ok (.aload_n 0, 1) := by decide +kernel
set_option maxRecDepth 20000 in
theorem dL_law_1009 : decode code 1009 = .ok (.iload_n 3, 1) := by decide +kernel
set_option maxRecDepth 20000 in
theorem dL_law_1010 : decode code 1010 = .ok (.iconst 3, 1) := by decide +kernel
set_option maxRecDepth 20000 in
theorem dL_law_1011 : decode code 1011 = .ok (.iadd, 1) := by decide +kernel
set_option maxRecDepth 20000 in
theorem dL_law_1012 : decode code 1012 = .ok (.iaload, 1) := by decide +kernel
set_option maxRecDepth 20000 in
theorem dL_law_1013 : decode code 1013 = .ok (.invokevirtual 114, 3) := by decide +kernel
set_option maxRecDepth 20000 in
theorem dL_law_1016 : decode code 1016 = .ok (.aload_n 2, 1) := by decide +kernel
set_option maxRecDepth 20000 in
theorem dL_law_1017 : decode code 1017 = .ok (.aload_n 0, 1) := by decide +kernel
set_option maxRecDepth 20000 in
theorem dL_law_1018 : decode code 1018 = .ok (.iload_n 3, 1) := by decide +kernel
set_option maxRecDepth 20000 in
theorem dL_law_1019 : decode code 1019 = .ok (.iconst 1, 1) := by decide +kernel
set_option maxRecDepth 20000 in
theorem dL_law_1020 : decode code 1020 = .ok (.iadd, 1) := by decide +kernel
set_option maxRecDepth 20000 in
theorem dL_law_1021 : decode code 1021 = .ok (.iaload, 1) := by decide +kernel
set_option maxRecDepth 20000 in
theorem dL_law_1022 : decode code 1022 = .ok (.aload_n 0, 1) := by decide +kernel
set_option maxRecDepth 20000 in
theorem dL_law_1023 : decode code 1023 = .ok (.iload_n 3, 1) := by decide +kernel
set_option maxRecDepth 20000 in
theorem dL_law_1024 : decode code 1024 = .ok (.iconst 2, 1) := by decide +kernel
set_option maxRecDepth 20000 in
theorem dL_law_1025 : decode code 1025 = .ok (.iadd, 1) := by decide +kernel
set_option maxRecDepth 20000 in
theorem dL_law_1026 : decode code 1026 = .ok (.iaload, 1) := by decide +kernel
set_option maxRecDepth 20000 in
theorem dL_law_1027 : decode code 1027 = .ok (.aload_n 0, 1) := by decide +kernel
set_option maxRecDepth 20000 in
theorem dL_law_1028 : decode code 1028 = .ok (.iload_n 3, 1) := by decide +kernel
set_option maxRecDepth 20000 in
theorem dL_law_1029 : decode code 1029 = .ok (.iconst 3, 1) := by decide +kernel
set_option maxRecDepth 20000 in
theorem dL_law_1030 : decode code 1030 = .ok (.iadd, 1) := by decide +kernel
set_option maxRecDepth 20000 in
theorem dL_law_1031 : decode code 1031 = .ok (.iaload, 1) := by decide +kernel
set_option maxRecDepth 20000 in
theorem dL_law_1032 : decode code 1032 = .ok (.invokevirtual 118, 3) := by decide +kernel
set_option maxRecDepth 20000 in
theorem dL_law_1035 : decode code 1035 = .ok (.lcmp, 1) := by decide +kernel
set_option maxRecDepth 20000 in
theorem dL_law_1036 : decode code 1036 = .ok (.ifCond .eq 437, 3) := by decide +kernel
set_option maxRecDepth 20000 in
theorem dL_law_1039 : decode code 1039 = .ok (.iconst 0, 1) := by decide +kernel
set_option maxRecDepth 20000 in
theorem dL_law_1040 : decode code 1040 = .ok (.ireturn, 1) := by decide +kernel
set_option maxRecDepth 20000 in
theorem dL_law_1041 : decode code 1041 = .ok (.aload_n 1, 1) := by decide +kernel
set_option maxRecDepth 20000 in
theorem dL_law_1042 : decode code 1042 = .ok (.aload_n 0, 1) := by decide +kernel
set_option maxRecDepth 20000 in
theorem dL_law_1043 : decode code 1043 = .ok (.iload_n 3, 1) := by decide +kernel
set_option maxRecDepth 20000 in
theorem dL_law_1044 : decode code 1044 = .ok (.iconst 1, 1) := by decide +kernel
set_option maxRecDepth 20000 in
theorem dL_law_1045 : decode code 1045 = .ok (.iadd, 1) := by decide +kernel
set_option maxRecDepth 20000 in
theorem dL_law_1046 : decode code 1046 = .ok (.iaload, 1) := by decide +kernel
set_option maxRecDepth 20000 in
theorem dL_law_1047 : decode code 1047 = .ok (.aload_n 0, 1) := by decide +kernel
set_option maxRecDepth 20000 in
theorem dL_law_1048 : decode code 1048 = .ok (.iload_n 3, 1) := by decide +kernel
set_option maxRecDepth 20000 in
theorem dL_law_1049 : decode code 1049 = .ok (.iconst 2, 1) := by decide +kernel
set_option maxRecDepth 20000 in
theorem dL_law_1050 : decode code 1050 = .ok (.iadd, 1) := by decide +kernel
set_option maxRecDepth 20000 in
theorem dL_law_1051 : decode code 1051 = .ok (.iaload, 1) := by decide +kernel
set_option maxRecDepth 20000 in
theorem dL_law_1052 : decode code 1052 = .ok (.aload_n 0, 1) := by decide +kernel
set_option maxRecDepth 20000 in
theorem dL_law_1053 : decode code 1053 = .ok (.iload_n 3, 1) := by decide +kernel
set_option maxRecDepth 20000 in
theorem dL_law_1054 : decode code 1054 = .ok (.iconst 3, 1) := by decide +kernel
set_option maxRecDepth 20000 in
theorem dL_law_1055 : decode code 1055 = .ok (.iadd, 1) := by decide +kernel
set_option maxRecDepth 20000 in
theorem dL_law_1056 : decode code 1056 = .ok (.iaload, 1) := by decide +kernel
set_option maxRecDepth 20000 in
theorem dL_law_1057 : decode code 1057 = .ok (.invokevirtual 119, 3) := by decide +kernel
set_option maxRecDepth 20000 in
theorem dL_law_1060 : decode code 1060 = .ok (.aload_n 2, 1) := by decide +kernel
set_option maxRecDepth 20000 in
theorem dL_law_1061 : decode code 1061 = .ok (.aload_n 0, 1) := by decide +kernel
set_option maxRecDepth 20000 in
theorem dL_law_1062 : decode code 1062 = .ok (.iload_n 3, 1) := by decide +kernel
set_option maxRecDepth 20000 in
theorem dL_law_1063 : decode code 1063 = .ok (.iconst 1, 1) := by decide +kernel
set_option maxRecDepth 20000 in
theorem dL_law_1064 : decode code 1064 = .ok (.iadd, 1) := by decide +kernel
set_option maxRecDepth 20000 in
theorem dL_law_1065 : decode code 1065 = .ok (.iaload, 1) := by decide +kernel
set_option maxRecDepth 20000 in
theorem dL_law_1066 : decode code 1066 = .ok (.aload_n 0, 1) := by decide +kernel
set_option maxRecDepth 20000 in
theorem dL_law_1067 : decode code 1067 = .ok (.iload_n 3, 1) := by decide +kernel
set_option maxRecDepth 20000 in
theorem dL_law_1068 : decode code 1068 = .ok (.iconst 2, 1) := by decide +kernel
set_option maxRecDepth 20000 in
theorem dL_law_1069 : decode code 1069 = .ok (.iadd, 1) := by decide +kernel
set_option maxRecDepth 20000 in
theorem dL_law_1070 : decode code 1070 = .ok (.iaload, 1) := by decide +kernel
set_option maxRecDepth 20000 in
theorem dL_law_1071 : decode code 1071 = .ok (.aload_n 0, 1) := by decide +kernel
set_option maxRecDepth 20000 in
theorem dL_law_1072 : decode code 1072 = .ok (.iload_n 3, 1) := by decide +kernel
set_option maxRecDepth 20000 in
theorem dL_law_1073 : decode code 1073 = .ok (.iconst 3, 1) := by decide +kernel
set_option maxRecDepth 20000 in
theorem dL_law_1074 : decode code 1074 = .ok (.iadd, 1) := by decide +kernel
set_option maxRecDepth 20000 in
theorem dL_law_1075 : decode code 1075 = .ok (.iaload, 1) := by decide +kernel
set_option maxRecDepth 20000 in
theorem dL_law_1076 : decode code 1076 = .ok (.invokevirtual 122, 3) := by decide +kernel
set_option maxRecDepth 20000 in
theorem dL_law_1079 : decode code 1079 = .ok (.if_icmp .eq 394, 3) := by decide +kernel
set_option maxRecDepth 20000 in
theorem dL_law_1082 : decode code 1082 = .ok (.iconst 0, 1) := by decide +kernel
set_option maxRecDepth 20000 in
theorem dL_law_1083 : decode code 1083 = .ok (.ireturn, 1) := by decide +kernel
set_option maxRecDepth 20000 in
theorem dL_law_1084 : decode code 1084 = .ok (.aload_n 1, 1) := by decide +kernel
set_option maxRecDepth 20000 in
theorem dL_law_1085 : decode code 1085 = .ok (.aload_n 0, 1) := by decide +kernel
set_option maxRecDepth 20000 in
theorem dL_law_1086 : decode code 1086 = .ok (.iload_n 3, 1) := by decide +kernel
set_option maxRecDepth 20000 in
theorem dL_law_1087 : decode code 1087 = .ok (.iconst 1, 1) := by decide +kernel
set_option maxRecDepth 20000 in
theorem dL_law_1088 : decode code 1088 = .ok (.iadd, 1) := by decide +kernel
set_option maxRecDepth 20000 in
theorem dL_law_1089 : decode code 1089 = .ok (.iaload, 1) := by decide +kernel
set_option maxRecDepth 20000 in
theorem dL_law_1090 : decode code 1090 = .ok (.invokevirtual 123, 3) := by decide +kernel
set_option maxRecDepth 20000 in
theorem dL_law_1093 : decode code 1093 = .ok (.aload_n 2, 1) := by decide +kernel
set_option maxRecDepth 20000 in
theorem dL_law_1094 : decode code 1094 = .ok (.aload_n 0, 1) := by decide +kernel
set_option maxRecDepth 20000 in
theorem dL_law_1095 : decode code 1095 = .ok (.iload_n 3, 1) := by decide +kernel
set_option maxRecDepth 20000 in
theorem dL_law_1096 : decode code 1096 = .ok (.iconst 1, 1) := by decide +kernel
set_option maxRecDepth 20000 in
theorem dL_law_1097 : decode code 1097 = .ok (.iadd, 1) := by decide +kernel
set_option maxRecDepth 20000 in
theorem dL_law_1098 : decode code 1098 = .ok (.iaload, 1) := by decide +kernel
set_option maxRecDepth 20000 in
theorem dL_law_1099 : decode code 1099 = .ok (.invokevirtual 126, 3) := by decide +kernel
set_option maxRecDepth 20000 in
theorem dL_law_1102 : decode code 1102 = .ok (.if_icmp .eq 371, 3) := by decide +kernel
set_option maxRecDepth 20000 in
theorem dL_law_1105 : decode code 1105 = .ok (.iconst 0, 1) := by decide +kernel
set_option maxRecDepth 20000 in
theorem dL_law_1106 : decode code 1106 = .ok (.ireturn, 1) := by decide +kernel
set_option maxRecDepth 20000 in
theorem dL_law_1107 : decode code 1107 = .ok (.aload_n 1, 1) := by decide +kernel
set_option maxRecDepth 20000 in
theorem dL_law_1108 : decode code 1108 = .ok (.aload_n 0, 1) := by decide +kernel
set_option maxRecDepth 20000 in
theorem dL_law_1109 : decode code 1109 = .ok (.iload_n 3, 1) := by decide +kernel
set_option maxRecDepth 20000 in
theorem dL_law_1110 : decode code 1110 = .ok (.iconst 1, 1) := by decide +kernel
set_option maxRecDepth 20000 in
theorem dL_law_1111 : decode code 1111 = .ok (.iadd, 1) := by decide +kernel
set_option maxRecDepth 20000 in
theorem dL_law_1112 : decode code 1112 = .ok (.iaload, 1) := by decide +kernel
set_option maxRecDepth 20000 in
theorem dL_law_1113 : decode code 1113 = .ok (.invokevirtual 127, 3) := by decide +kernel
set_option maxRecDepth 20000 in
theorem dL_law_1116 : decode code 1116 = .ok (.aload_n 2, 1) := by decide +kernel
set_option maxRecDepth 20000 in
theorem dL_law_1117 : decode code 1117 = .ok (.aload_n 0, 1) := by decide +kernel
set_option maxRecDepth 20000 in
theorem dL_law_1118 : decode code 1118 = .ok (.iload_n 3, 1) := by decide +kernel
set_option maxRecDepth 20000 in
theorem dL_law_1119 : decode code 1119 = .ok (.iconst 1, 1) := by decide +kernel
set_option maxRecDepth 20000 in
theorem dL_law_1120 : decode code 1120 = .ok (.iadd, 1) := by decide +kernel
set_option maxRecDepth 20000 in
theorem dL_law_1121 : decode code 1121 = .ok (.iaload, 1) := by decide +kernel
set_option maxRecDepth 20000 in
theorem dL_law_1122 : decode code 1122 = .ok (.invokevirtual 130, 3) := by decide +kernel
set_option maxRecDepth 20000 in
theorem dL_law_1125 : decode code 1125 = .ok (.if_icmp .eq 348, 3) := by decide +kernel
set_option maxRecDepth 20000 in
theorem dL_law_1128 : decode code 1128 = .ok (.iconst 0, 1) := by decide +kernel
set_option maxRecDepth 20000 in
theorem dL_law_1129 : decode code 1129 = .ok (.ireturn, 1) := by decide +kernel
set_option maxRecDepth 20000 in
theorem dL_law_1130 : decode code 1130 = .ok (.aload_n 1, 1) := by decide +kernel
set_option maxRecDepth 20000 in
theorem dL_law_1131 : decode code 1131 = .ok (.aload_n 0, 1) := by decide +kernel
set_option maxRecDepth 20000 in
theorem dL_law_1132 : decode code 1132 = .ok (.iload_n 3, 1) := by decide +kernel
set_option maxRecDepth 20000 in
theorem dL_law_1133 : decode code 1133 = .ok (.iconst 1, 1) := by decide +kernel
set_option maxRecDepth 20000 in
theorem dL_law_1134 : decode code 1134 = .ok (.iadd, 1) := by decide +kernel
set_option maxRecDepth 20000 in
theorem dL_law_1135 : decode code 1135 = .ok (.iaload, 1) := by decide +kernel
set_option maxRecDepth 20000 in
theorem dL_law_1136 : decode code 1136 = .ok (.invokevirtual 131, 3) := by decide +kernel
set_option maxRecDepth 20000 in
theorem dL_law_1139 : decode code 1139 = .ok (.aload_n 2, 1) := by decide +kernel
set_option maxRecDepth 20000 in
theorem dL_law_1140 : decode code 1140 = .ok (.aload_n 0, 1) := by decide +kernel
set_option maxRecDepth 20000 in
theorem dL_law_1141 : decode code 1141 = .ok (.iload_n 3, 1) := by decide +kernel
set_option maxRecDepth 20000 in
theorem dL_law_1142 : decode code 1142 = .ok (.iconst 1, 1) := by decide +kernel
set_option maxRecDepth 20000 in
theorem dL_law_1143 : decode code 1143 = .ok (.iadd, 1) := by decide +kernel
set_option maxRecDepth 20000 in
theorem dL_law_1144 : decode code 1144 = .ok (.iaload, 1) := by decide +kernel
set_option maxRecDepth 20000 in
theorem dL_law_1145 : decode code 1145 = .ok (.invokevirtual 134, 3) := by decide +kernel
set_option maxRecDepth 20000 in
theorem dL_law_1148 : decode code 1148 = .ok (.if_icmp .eq 325, 3) := by decide +kernel
set_option maxRecDepth 20000 in
theorem dL_law_1151 : decode code 1151 = .ok (.iconst 0, 1) := by decide +kernel
set_option maxRecDepth 20000 in
theorem dL_law_1152 : decode code 1152 = .ok (.ireturn, 1) := by decide +kernel
set_option maxRecDepth 20000 in
theorem dL_law_1153 : decode code 1153 = .ok (.aload_n 1, 1) := by decide +kernel
