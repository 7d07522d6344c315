theorem dL_law_893 : decode code 893 = .ok (.aload_n 0, 1) := by decide +kernel
theorem dL_law_894 : decode code 894 = .ok (.iload 4, 2) := by decide +kernel
theorem dL_law_896 : decode code 896 = .ok (.iconst 3, 1) := by decide +kernel
theorem dL_law_897 : decode code 897 = .ok (.iadd, 1) := by decide +kernel
theorem dL_law_898 : decode code 898 = .ok (.iaload, 1) := by decide +kernel
theorem dL_law_899 : decode code 899 = .ok (.invokevirtual 138, 3) := by decide +kernel
theorem dL_law_902 : decode code 902 = .ok (.istore 6, 2) := by decide +kernel
theorem dL_law_904 : decode code 904 = .ok (.aload_n 2, 1) := by decide +kernel
theorem dL_law_905 : decode code 905 = .ok (.invokevirtual 85, 3) := by decide +kernel
theorem dL_law_908 : decode code 908 = .ok (.iload 5, 2) := by decide +kernel
theorem dL_law_910 : decode code 910 = .ok (.if_icmp .eq 5, 3) := by decide +kernel
theorem dL_law_913 : decode code 913 = .ok (.iconst 0, 1) := by decide +kernel
theorem dL_law_914 : decode code 914 = .ok (.ireturn, 1) := by decide +kernel
theorem dL_law_915 : decode code 915 = .ok (.iload 5, 2) := by decide +kernel
theorem dL_law_917 : decode code 917 = .ok (.ifCond .ne 15, 3) := by decide +kernel
theorem dL_law_920 : decode code 920 = .ok (.aload_n 3, 1) := by decide +kernel
theorem dL_law_921 : decode code 921 = .ok (.iconst 0, 1) := by decide +kernel
theorem dL_law_922 : decode code 922 = .ok (.laload, 1) := by decide +kernel
theorem dL_law_923 : decode code 923 = .ok (.iload 6, 2) := by decide +kernel
theorem dL_law_925 : decode code 925 = .ok (.i2l, 1) := by decide +kernel
theorem dL_law_926 : decode code 926 = .ok (.lcmp, 1) := by decide +kernel
theorem dL_law_927 : decode code 927 = .ok (.ifCond .eq 5, 3) := by decide +kernel
theorem dL_law_930 : decode code 930 = .ok (.iconst 0, 1) := by decide +kernel
theorem dL_law_931 : decode code 931 = .ok (.ireturn, 1) := by decide +kernel
theorem dL_law_932 : decode code 932 = .ok (.goto 336, 3) := by decide +kernel
theorem dL_law_935 : decode code 935 = .ok (.aload_n 1, 1) := by decide +kernel
theorem dL_law_936 : decode code 936 = .ok (.aload_n 0, 1) := by decide +kernel
theorem dL_law_937 : decode code 937 = .ok (.iload 4, 2) := by decide +kernel
theorem dL_law_939 : decode code 939 = .ok (.iconst 1, 1) := by decide +kernel
theorem dL_law_940 : decode code 940 = .ok (.iadd, 1) := by decide +kernel
theorem dL_law_941 : decode code 941 = .ok (.iaload, 1) := by decide +kernel
theorem dL_law_942 : decode code 942 = .ok (.aload_n 0, 1) := by decide +kernel
theorem dL_law_943 : decode code 943 = .ok (.iload 4, 2) := by decide +kernel
theorem dL_law_945 : decode code 945 = .ok (.iconst 2, 1) := by decide +kernel
theorem dL_law_946 : decode code 946 = .ok (.iadd, 1) := by decide +kernel
theorem dL_law_947 : decode code 947 = .ok (.iaload, 1) := by decide +kernel
theorem dL_law_948 : decode code 948 = .ok (.aload_n 0, 1) := by decide +kernel
theorem dL_law_949 : decode code 949 = .ok (.iload 4, 2) := by decide +kernel
theorem dL_law_951 : decode code 951 = .ok (.iconst 3, 1) := by decide +kernel
theorem dL_law_952 : decode code 952 = .ok (.iadd, 1) := by decide +kernel
theorem dL_law_953 : decode code 953 = .ok (.iaload, 1) := by decide +kernel
theorem dL_law_954 : decode code 954 = .ok (.aload_n 0, 1) := by decide +kernel
theorem dL_law_955 : decode code 955 = .ok (.iload 4, 2) := by decide +kernel
theorem dL_law_957 : decode code 957 = .ok (.iconst 4, 1) := by decide +kernel
theorem dL_law_958 : decode code 958 = .ok (.iadd, 1) := by decide +kernel
theorem dL_law_959 : decode code 959 = .ok (.iaload, 1) := by decide +kernel
theorem dL_law_960 : decode code 960 = .ok (.aload_n 3, 1) := by decide +kernel
theorem dL_law_961 : decode code 961 = .ok (.invokestatic 139, 3) := by decide +kernel
theorem dL_law_964 : decode code 964 = .ok (.istore 5, 2) := by decide +kernel
theorem dL_law_966 : decode code 966 = .ok (.aload_n 2, 1) := by decide +kernel
theorem dL_law_967 : decode code 967 = .ok (.aload_n 0, 1) := by decide +kernel
theorem dL_law_968 : decode code 968 = .ok (.iload 4, 2) := by decide +kernel
theorem dL_law_970 : decode code 970 = .ok (.iconst 1, 1) := by decide +kernel
theorem dL_law_971 : decode code 971 = .ok (.iadd, 1) := by decide +kernel
theorem dL_law_972 : decode code 972 = .ok (.iaload, 1) := by decide +kernel
theorem dL_law_973 : decode code 973 = .ok (.aload_n 0, 1) := by decide +kernel
theorem dL_law_974 : decode code 974 = .ok (.iload 4, 2) := by decide +kernel
theorem dL_law_976 : decode code 976 = .ok (.iconst 2, 1) := by decide +kernel
theorem dL_law_977 : decode code 977 = .ok (.iadd, 1) := by decide +kernel
theorem dL_law_978 : decode code 978 = .ok (.iaload, 1) := by decide +kernel
