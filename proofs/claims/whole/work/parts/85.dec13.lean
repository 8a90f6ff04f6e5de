theorem dL_law_2891 : decode cL_law 2891 = .ok (.goto 315, 3) := by decide +kernel
theorem dL_law_2894 : decode cL_law 2894 = .ok (.aload_n 1, 1) := by decide +kernel
theorem dL_law_2895 : decode cL_law 2895 = .ok (.aload_n 0, 1) := by decide +kernel
theorem dL_law_2896 : decode cL_law 2896 = .ok (.iload 5, 2) := by decide +kernel
theorem dL_law_2898 : decode cL_law 2898 = .ok (.iconst 1, 1) := by decide +kernel
theorem dL_law_2899 : decode cL_law 2899 = .ok (.iadd, 1) := by decide +kernel
theorem dL_law_2900 : decode cL_law 2900 = .ok (.iaload, 1) := by decide +kernel
theorem dL_law_2901 : decode cL_law 2901 = .ok (.aload_n 0, 1) := by decide +kernel
theorem dL_law_2902 : decode cL_law 2902 = .ok (.iload 5, 2) := by decide +kernel
theorem dL_law_2904 : decode cL_law 2904 = .ok (.iconst 2, 1) := by decide +kernel
theorem dL_law_2905 : decode cL_law 2905 = .ok (.iadd, 1) := by decide +kernel
theorem dL_law_2906 : decode cL_law 2906 = .ok (.iaload, 1) := by decide +kernel
theorem dL_law_2907 : decode cL_law 2907 = .ok (.aload_n 3, 1) := by decide +kernel
theorem dL_law_2908 : decode cL_law 2908 = .ok (.invokestatic 285, 3) := by decide +kernel
theorem dL_law_2911 : decode cL_law 2911 = .ok (.istore 6, 2) := by decide +kernel
theorem dL_law_2913 : decode cL_law 2913 = .ok (.aload_n 2, 1) := by decide +kernel
theorem dL_law_2914 : decode cL_law 2914 = .ok (.aload_n 0, 1) := by decide +kernel
theorem dL_law_2915 : decode cL_law 2915 = .ok (.iload 5, 2) := by decide +kernel
theorem dL_law_2917 : decode cL_law 2917 = .ok (.iconst 1, 1) := by decide +kernel
theorem dL_law_2918 : decode cL_law 2918 = .ok (.iadd, 1) := by decide +kernel
theorem dL_law_2919 : decode cL_law 2919 = .ok (.iaload, 1) := by decide +kernel
theorem dL_law_2920 : decode cL_law 2920 = .ok (.aload_n 0, 1) := by decide +kernel
theorem dL_law_2921 : decode cL_law 2921 = .ok (.iload 5, 2) := by decide +kernel
theorem dL_law_2923 : decode cL_law 2923 = .ok (.iconst 2, 1) := by decide +kernel
theorem dL_law_2924 : decode cL_law 2924 = .ok (.iadd, 1) := by decide +kernel
theorem dL_law_2925 : decode cL_law 2925 = .ok (.iaload, 1) := by decide +kernel
theorem dL_law_2926 : decode cL_law 2926 = .ok (.invokevirtual 287, 3) := by decide +kernel
theorem dL_law_2929 : decode cL_law 2929 = .ok (.lstore 7, 2) := by decide +kernel
theorem dL_law_2931 : decode cL_law 2931 = .ok (.aload_n 2, 1) := by decide +kernel
theorem dL_law_2932 : decode cL_law 2932 = .ok (.invokevirtual 167, 3) := by decide +kernel
theorem dL_law_2935 : decode cL_law 2935 = .ok (.iload 6, 2) := by decide +kernel
theorem dL_law_2937 : decode cL_law 2937 = .ok (.if_icmp .eq 5, 3) := by decide +kernel
theorem dL_law_2940 : decode cL_law 2940 = .ok (.iconst 0, 1) := by decide +kernel
theorem dL_law_2941 : decode cL_law 2941 = .ok (.ireturn, 1) := by decide +kernel
theorem dL_law_2942 : decode cL_law 2942 = .ok (.iload 6, 2) := by decide +kernel
theorem dL_law_2944 : decode cL_law 2944 = .ok (.ifCond .ne 14, 3) := by decide +kernel
theorem dL_law_2947 : decode cL_law 2947 = .ok (.aload_n 3, 1) := by decide +kernel
theorem dL_law_2948 : decode cL_law 2948 = .ok (.iconst 0, 1) := by decide +kernel
theorem dL_law_2949 : decode cL_law 2949 = .ok (.laload, 1) := by decide +kernel
theorem dL_law_2950 : decode cL_law 2950 = .ok (.lload 7, 2) := by decide +kernel
theorem dL_law_2952 : decode cL_law 2952 = .ok (.lcmp, 1) := by decide +kernel
theorem dL_law_2953 : decode cL_law 2953 = .ok (.ifCond .eq 5, 3) := by decide +kernel
theorem dL_law_2956 : decode cL_law 2956 = .ok (.iconst 0, 1) := by decide +kernel
theorem dL_law_2957 : decode cL_law 2957 = .ok (.ireturn, 1) := by decide +kernel
theorem dL_law_2958 : decode cL_law 2958 = .ok (.goto 248, 3) := by decide +kernel
theorem dL_law_2961 : decode cL_law 2961 = .ok (.aload_n 1, 1) := by decide +kernel
theorem dL_law_2962 : decode cL_law 2962 = .ok (.aload_n 0, 1) := by decide +kernel
theorem dL_law_2963 : decode cL_law 2963 = .ok (.iload 5, 2) := by decide +kernel
theorem dL_law_2965 : decode cL_law 2965 = .ok (.iconst 1, 1) := by decide +kernel
theorem dL_law_2966 : decode cL_law 2966 = .ok (.iadd, 1) := by decide +kernel
theorem dL_law_2967 : decode cL_law 2967 = .ok (.iaload, 1) := by decide +kernel
theorem dL_law_2968 : decode cL_law 2968 = .ok (.aload_n 3, 1) := by decide +kernel
theorem dL_law_2969 : decode cL_law 2969 = .ok (.invokestatic 288, 3) := by decide +kernel
theorem dL_law_2972 : decode cL_law 2972 = .ok (.istore 6, 2) := by decide +kernel
theorem dL_law_2974 : decode cL_law 2974 = .ok (.aload_n 2, 1) := by decide +kernel
theorem dL_law_2975 : decode cL_law 2975 = .ok (.aload_n 0, 1) := by decide +kernel
theorem dL_law_2976 : decode cL_law 2976 = .ok (.iload 5, 2) := by decide +kernel
theorem dL_law_2978 : decode cL_law 2978 = .ok (.iconst 1, 1) := by decide +kernel
theorem dL_law_2979 : decode cL_law 2979 = .ok (.iadd, 1) := by decide +kernel
theorem dL_law_2980 : decode cL_law 2980 = .ok (.iaload, 1) := by decide +kernel
theorem dL_law_2981 : decode cL_law 2981 = .ok (.invokevirtual 290, 3) := by decide +kernel
theorem dL_law_2984 : decode cL_law 2984 = .ok (.istore 7, 2) := by decide +kernel
theorem dL_law_2986 : decode cL_law 2986 = .ok (.aload_n 2, 1) := by decide +kernel
theorem dL_law_2987 : decode cL_law 2987 = .ok (.invokevirtual 167, 3) := by decide +kernel
theorem dL_law_2990 : decode cL_law 2990 = .ok (.iload 6, 2) := by decide +kernel
theorem dL_law_2992 : decode cL_law 2992 = .ok (.if_icmp .eq 5, 3) := by decide +kernel
theorem dL_law_2995 : decode cL_law 2995 = .ok (.iconst 0, 1) := by decide +kernel
theorem dL_law_2996 : decode cL_law 2996 = .ok (.ireturn, 1) := by decide +kernel
theorem dL_law_2997 : decode cL_law 2997 = .ok (.iload 6, 2) := by decide +kernel
theorem dL_law_2999 : decode cL_law 2999 = .ok (.ifCond .ne 22, 3) := by decide +kernel
theorem dL_law_3002 : decode cL_law 3002 = .ok (.aload_n 3, 1) := by decide +kernel
theorem dL_law_3003 : decode cL_law 3003 = .ok (.iconst 0, 1) := by decide +kernel
theorem dL_law_3004 : decode cL_law 3004 = .ok (.laload, 1) := by decide +kernel
theorem dL_law_3005 : decode cL_law 3005 = .ok (.iload 7, 2) := by decide +kernel
theorem dL_law_3007 : decode cL_law 3007 = .ok (.ifCond .eq 7, 3) := by decide +kernel
theorem dL_law_3010 : decode cL_law 3010 = .ok (.lconst 1, 1) := by decide +kernel
theorem dL_law_3011 : decode cL_law 3011 = .ok (.goto 4, 3) := by decide +kernel
theorem dL_law_3014 : decode cL_law 3014 = .ok (.lconst 0, 1) := by decide +kernel
theorem dL_law_3015 : decode cL_law 3015 = .ok (.lcmp, 1) := by decide +kernel
theorem dL_law_3016 : decode cL_law 3016 = .ok (.ifCond .eq 5, 3) := by decide +kernel
theorem dL_law_3019 : decode cL_law 3019 = .ok (.iconst 0, 1) := by decide +kernel
theorem dL_law_3020 : decode cL_law 3020 = .ok (.ireturn, 1) := by decide +kernel
theorem dL_law_3021 : decode cL_law 3021 = .ok (.goto 185, 3) := by decide +kernel
theorem dL_law_3024 : decode cL_law 3024 = .ok (.aload_n 1, 1) := by decide +kernel
theorem dL_law_3025 : decode cL_law 3025 = .ok (.aload_n 0, 1) := by decide +kernel
theorem dL_law_3026 : decode cL_law 3026 = .ok (.iload 5, 2) := by decide +kernel
theorem dL_law_3028 : decode cL_law 3028 = .ok (.iconst 1, 1) := by decide +kernel
theorem dL_law_3029 : decode cL_law 3029 = .ok (.iadd, 1) := by decide +kernel
theorem dL_law_3030 : decode cL_law 3030 = .ok (.iaload, 1) := by decide +kernel
theorem dL_law_3031 : decode cL_law 3031 = .ok (.aload 4, 2) := by decide +kernel
theorem dL_law_3033 : decode cL_law 3033 = .ok (.invokestatic 291, 3) := by decide +kernel
theorem dL_law_3036 : decode cL_law 3036 = .ok (.istore 6, 2) := by decide +kernel
theorem dL_law_3038 : decode cL_law 3038 = .ok (.aload_n 2, 1) := by decide +kernel
theorem dL_law_3039 : decode cL_law 3039 = .ok (.aload_n 0, 1) := by decide +kernel
theorem dL_law_3040 : decode cL_law 3040 = .ok (.iload 5, 2) := by decide +kernel
theorem dL_law_3042 : decode cL_law 3042 = .ok (.iconst 1, 1) := by decide +kernel
theorem dL_law_3043 : decode cL_law 3043 = .ok (.iadd, 1) := by decide +kernel
theorem dL_law_3044 : decode cL_law 3044 = .ok (.iaload, 1) := by decide +kernel
theorem dL_law_3045 : decode cL_law 3045 = .ok (.invokevirtual 294, 3) := by decide +kernel
theorem dL_law_3048 : decode cL_law 3048 = .ok (.fstore 7, 2) := by decide +kernel
theorem dL_law_3050 : decode cL_law 3050 = .ok (.aload_n 2, 1) := by decide +kernel
theorem dL_law_3051 : decode cL_law 3051 = .ok (.invokevirtual 167, 3) := by decide +kernel
theorem dL_law_3054 : decode cL_law 3054 = .ok (.iload 6, 2) := by decide +kernel
theorem dL_law_3056 : decode cL_law 3056 = .ok (.if_icmp .eq 5, 3) := by decide +kernel
theorem dL_law_3059 : decode cL_law 3059 = .ok (.iconst 0, 1) := by decide +kernel
theorem dL_law_3060 : decode cL_law 3060 = .ok (.ireturn, 1) := by decide +kernel
theorem dL_law_3061 : decode cL_law 3061 = .ok (.iload 6, 2) := by decide +kernel
theorem dL_law_3063 : decode cL_law 3063 = .ok (.ifCond .ne 36, 3) := by decide +kernel
theorem dL_law_3066 : decode cL_law 3066 = .ok (.aload 4, 2) := by decide +kernel
theorem dL_law_3068 : decode cL_law 3068 = .ok (.iconst 0, 1) := by decide +kernel
theorem dL_law_3069 : decode cL_law 3069 = .ok (.daload, 1) := by decide +kernel
theorem dL_law_3070 : decode cL_law 3070 = .ok (.fload 7, 2) := by decide +kernel
theorem dL_law_3072 : decode cL_law 3072 = .ok (.f2d, 1) := by decide +kernel
theorem dL_law_3073 : decode cL_law 3073 = .ok (.dcmp .l, 1) := by decide +kernel
theorem dL_law_3074 : decode cL_law 3074 = .ok (.ifCond .eq 25, 3) := by decide +kernel
theorem dL_law_3077 : decode cL_law 3077 = .ok (.aload 4, 2) := by decide +kernel
theorem dL_law_3079 : decode cL_law 3079 = .ok (.iconst 0, 1) := by decide +kernel
theorem dL_law_3080 : decode cL_law 3080 = .ok (.daload, 1) := by decide +kernel
theorem dL_law_3081 : decode cL_law 3081 = .ok (.aload 4, 2) := by decide +kernel
theorem dL_law_3083 : decode cL_law 3083 = .ok (.iconst 0, 1) := by decide +kernel
theorem dL_law_3084 : decode cL_law 3084 = .ok (.daload, 1) := by decide +kernel
theorem dL_law_3085 : decode cL_law 3085 = .ok (.dcmp .l, 1) := by decide +kernel
theorem dL_law_3086 : decode cL_law 3086 = .ok (.ifCond .eq 11, 3) := by decide +kernel
theorem dL_law_3089 : decode cL_law 3089 = .ok (.fload 7, 2) := by decide +kernel
theorem dL_law_3091 : decode cL_law 3091 = .ok (.fload 7, 2) := by decide +kernel
theorem dL_law_3093 : decode cL_law 3093 = .ok (.fcmp .l, 1) := by decide +kernel
theorem dL_law_3094 : decode cL_law 3094 = .ok (.ifCond .ne 5, 3) := by decide +kernel
theorem dL_law_3097 : decode cL_law 3097 = .ok (.iconst 0, 1) := by decide +kernel
theorem dL_law_3098 : decode cL_law 3098 = .ok (.ireturn, 1) := by decide +kernel
theorem dL_law_3099 : decode cL_law 3099 = .ok (.goto 107, 3) := by decide +kernel
theorem dL_law_3102 : decode cL_law 3102 = .ok (.aload_n 1, 1) := by decide +kernel
theorem dL_law_3103 : decode cL_law 3103 = .ok (.aload_n 0, 1) := by decide +kernel
theorem dL_law_3104 : decode cL_law 3104 = .ok (.iload 5, 2) := by decide +kernel
theorem dL_law_3106 : decode cL_law 3106 = .ok (.iconst 1, 1) := by decide +kernel
theorem dL_law_3107 : decode cL_law 3107 = .ok (.iadd, 1) := by decide +kernel
theorem dL_law_3108 : decode cL_law 3108 = .ok (.iaload, 1) := by decide +kernel
theorem dL_law_3109 : decode cL_law 3109 = .ok (.aload 4, 2) := by decide +kernel
theorem dL_law_3111 : decode cL_law 3111 = .ok (.invokestatic 295, 3) := by decide +kernel
theorem dL_law_3114 : decode cL_law 3114 = .ok (.istore 6, 2) := by decide +kernel
theorem dL_law_3116 : decode cL_law 3116 = .ok (.aload_n 2, 1) := by decide +kernel
theorem dL_law_3117 : decode cL_law 3117 = .ok (.aload_n 0, 1) := by decide +kernel
theorem dL_law_3118 : decode cL_law 3118 = .ok (.iload 5, 2) := by decide +kernel
theorem dL_law_3120 : decode cL_law 3120 = .ok (.iconst 1, 1) := by decide +kernel
theorem dL_law_3121 : decode cL_law 3121 = .ok (.iadd, 1) := by decide +kernel
theorem dL_law_3122 : decode cL_law 3122 = .ok (.iaload, 1) := by decide +kernel
theorem dL_law_3123 : decode cL_law 3123 = .ok (.invokevirtual 297, 3) := by decide +kernel
theorem dL_law_3126 : decode cL_law 3126 = .ok (.dstore 7, 2) := by decide +kernel
theorem dL_law_3128 : decode cL_law 3128 = .ok (.aload_n 2, 1) := by decide +kernel
theorem dL_law_3129 : decode cL_law 3129 = .ok (.invokevirtual 167, 3) := by decide +kernel
theorem dL_law_3132 : decode cL_law 3132 = .ok (.iload 6, 2) := by decide +kernel
