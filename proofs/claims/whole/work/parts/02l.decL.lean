/-! decode rows of the law's body, 12 -/
theorem dL_law_2906 : decode code 2906 = .ok (.iconst 0, 1) := by decide +kernel
theorem dL_law_2907 : decode code 2907 = .ok (.laload, 1) := by decide +kernel
theorem dL_law_2908 : decode code 2908 = .ok (.iload 6, 2) := by decide +kernel
theorem dL_law_2910 : decode code 2910 = .ok (.i2l, 1) := by decide +kernel
theorem dL_law_2911 : decode code 2911 = .ok (.lcmp, 1) := by decide +kernel
theorem dL_law_2912 : decode code 2912 = .ok (.ifCond .eq 5, 3) := by decide +kernel
theorem dL_law_2915 : decode code 2915 = .ok (.iconst 0, 1) := by decide +kernel
theorem dL_law_2916 : decode code 2916 = .ok (.ireturn, 1) := by decide +kernel
theorem dL_law_2917 : decode code 2917 = .ok (.goto 564, 3) := by decide +kernel
theorem dL_law_2920 : decode code 2920 = .ok (.aload_n 1, 1) := by decide +kernel
theorem dL_law_2921 : decode code 2921 = .ok (.aload_n 0, 1) := by decide +kernel
theorem dL_law_2922 : decode code 2922 = .ok (.iload 4, 2) := by decide +kernel
theorem dL_law_2924 : decode code 2924 = .ok (.iconst 1, 1) := by decide +kernel
theorem dL_law_2925 : decode code 2925 = .ok (.iadd, 1) := by decide +kernel
theorem dL_law_2926 : decode code 2926 = .ok (.iaload, 1) := by decide +kernel
theorem dL_law_2927 : decode code 2927 = .ok (.aload_n 3, 1) := by decide +kernel
theorem dL_law_2928 : decode code 2928 = .ok (.invokestatic 351, 3) := by decide +kernel
theorem dL_law_2931 : decode code 2931 = .ok (.istore 5, 2) := by decide +kernel
theorem dL_law_2933 : decode code 2933 = .ok (.aload_n 2, 1) := by decide +kernel
theorem dL_law_2934 : decode code 2934 = .ok (.aload_n 0, 1) := by decide +kernel
theorem dL_law_2935 : decode code 2935 = .ok (.iload 4, 2) := by decide +kernel
theorem dL_law_2937 : decode code 2937 = .ok (.iconst 1, 1) := by decide +kernel
theorem dL_law_2938 : decode code 2938 = .ok (.iadd, 1) := by decide +kernel
theorem dL_law_2939 : decode code 2939 = .ok (.iaload, 1) := by decide +kernel
theorem dL_law_2940 : decode code 2940 = .ok (.invokevirtual 353, 3) := by decide +kernel
theorem dL_law_2943 : decode code 2943 = .ok (.istore 6, 2) := by decide +kernel
theorem dL_law_2945 : decode code 2945 = .ok (.aload_n 2, 1) := by decide +kernel
theorem dL_law_2946 : decode code 2946 = .ok (.invokevirtual 166, 3) := by decide +kernel
theorem dL_law_2949 : decode code 2949 = .ok (.iload 5, 2) := by decide +kernel
theorem dL_law_2951 : decode code 2951 = .ok (.if_icmp .eq 5, 3) := by decide +kernel
theorem dL_law_2954 : decode code 2954 = .ok (.iconst 0, 1) := by decide +kernel
theorem dL_law_2955 : decode code 2955 = .ok (.ireturn, 1) := by decide +kernel
theorem dL_law_2956 : decode code 2956 = .ok (.iload 5, 2) := by decide +kernel
theorem dL_law_2958 : decode code 2958 = .ok (.ifCond .ne 15, 3) := by decide +kernel
theorem dL_law_2961 : decode code 2961 = .ok (.aload_n 3, 1) := by decide +kernel
theorem dL_law_2962 : decode code 2962 = .ok (.iconst 0, 1) := by decide +kernel
theorem dL_law_2963 : decode code 2963 = .ok (.laload, 1) := by decide +kernel
theorem dL_law_2964 : decode code 2964 = .ok (.iload 6, 2) := by decide +kernel
theorem dL_law_2966 : decode code 2966 = .ok (.i2l, 1) := by decide +kernel
theorem dL_law_2967 : decode code 2967 = .ok (.lcmp, 1) := by decide +kernel
theorem dL_law_2968 : decode code 2968 = .ok (.ifCond .eq 5, 3) := by decide +kernel
theorem dL_law_2971 : decode code 2971 = .ok (.iconst 0, 1) := by decide +kernel
theorem dL_law_2972 : decode code 2972 = .ok (.ireturn, 1) := by decide +kernel
theorem dL_law_2973 : decode code 2973 = .ok (.goto 508, 3) := by decide +kernel
theorem dL_law_2976 : decode code 2976 = .ok (.aload_n 1, 1) := by decide +kernel
theorem dL_law_2977 : decode code 2977 = .ok (.aload_n 0, 1) := by decide +kernel
theorem dL_law_2978 : decode code 2978 = .ok (.iload 4, 2) := by decide +kernel
theorem dL_law_2980 : decode code 2980 = .ok (.iconst 1, 1) := by decide +kernel
theorem dL_law_2981 : decode code 2981 = .ok (.iadd, 1) := by decide +kernel
theorem dL_law_2982 : decode code 2982 = .ok (.iaload, 1) := by decide +kernel
theorem dL_law_2983 : decode code 2983 = .ok (.aload_n 0, 1) := by decide +kernel
theorem dL_law_2984 : decode code 2984 = .ok (.iload 4, 2) := by decide +kernel
theorem dL_law_2986 : decode code 2986 = .ok (.iconst 2, 1) := by decide +kernel
theorem dL_law_2987 : decode code 2987 = .ok (.iadd, 1) := by decide +kernel
theorem dL_law_2988 : decode code 2988 = .ok (.iaload, 1) := by decide +kernel
theorem dL_law_2989 : decode code 2989 = .ok (.aload_n 3, 1) := by decide +kernel
theorem dL_law_2990 : decode code 2990 = .ok (.invokestatic 354, 3) := by decide +kernel
theorem dL_law_2993 : decode code 2993 = .ok (.istore 5, 2) := by decide +kernel
theorem dL_law_2995 : decode code 2995 = .ok (.aload_n 2, 1) := by decide +kernel
theorem dL_law_2996 : decode code 2996 = .ok (.aload_n 0, 1) := by decide +kernel
theorem dL_law_2997 : decode code 2997 = .ok (.iload 4, 2) := by decide +kernel
theorem dL_law_2999 : decode code 2999 = .ok (.iconst 1, 1) := by decide +kernel
theorem dL_law_3000 : decode code 3000 = .ok (.iadd, 1) := by decide +kernel
theorem dL_law_3001 : decode code 3001 = .ok (.iaload, 1) := by decide +kernel
theorem dL_law_3002 : decode code 3002 = .ok (.aload_n 0, 1) := by decide +kernel
theorem dL_law_3003 : decode code 3003 = .ok (.iload 4, 2) := by decide +kernel
theorem dL_law_3005 : decode code 3005 = .ok (.iconst 2, 1) := by decide +kernel
theorem dL_law_3006 : decode code 3006 = .ok (.iadd, 1) := by decide +kernel
theorem dL_law_3007 : decode code 3007 = .ok (.iaload, 1) := by decide +kernel
theorem dL_law_3008 : decode code 3008 = .ok (.invokevirtual 356, 3) := by decide +kernel
theorem dL_law_3011 : decode code 3011 = .ok (.istore 6, 2) := by decide +kernel
theorem dL_law_3013 : decode code 3013 = .ok (.aload_n 2, 1) := by decide +kernel
theorem dL_law_3014 : decode code 3014 = .ok (.invokevirtual 166, 3) := by decide +kernel
theorem dL_law_3017 : decode code 3017 = .ok (.iload 5, 2) := by decide +kernel
theorem dL_law_3019 : decode code 3019 = .ok (.if_icmp .eq 5, 3) := by decide +kernel
theorem dL_law_3022 : decode code 3022 = .ok (.iconst 0, 1) := by decide +kernel
theorem dL_law_3023 : decode code 3023 = .ok (.ireturn, 1) := by decide +kernel
theorem dL_law_3024 : decode code 3024 = .ok (.iload 5, 2) := by decide +kernel
theorem dL_law_3026 : decode code 3026 = .ok (.ifCond .ne 15, 3) := by decide +kernel
theorem dL_law_3029 : decode code 3029 = .ok (.aload_n 3, 1) := by decide +kernel
theorem dL_law_3030 : decode code 3030 = .ok (.iconst 0, 1) := by decide +kernel
theorem dL_law_3031 : decode code 3031 = .ok (.laload, 1) := by decide +kernel
theorem dL_law_3032 : decode code 3032 = .ok (.iload 6, 2) := by decide +kernel
theorem dL_law_3034 : decode code 3034 = .ok (.i2l, 1) := by decide +kernel
theorem dL_law_3035 : decode code 3035 = .ok (.lcmp, 1) := by decide +kernel
theorem dL_law_3036 : decode code 3036 = .ok (.ifCond .eq 5, 3) := by decide +kernel
theorem dL_law_3039 : decode code 3039 = .ok (.iconst 0, 1) := by decide +kernel
theorem dL_law_3040 : decode code 3040 = .ok (.ireturn, 1) := by decide +kernel
theorem dL_law_3041 : decode code 3041 = .ok (.goto 440, 3) := by decide +kernel
theorem dL_law_3044 : decode code 3044 = .ok (.aload_n 1, 1) := by decide +kernel
theorem dL_law_3045 : decode code 3045 = .ok (.aload_n 0, 1) := by decide +kernel
theorem dL_law_3046 : decode code 3046 = .ok (.iload 4, 2) := by decide +kernel
theorem dL_law_3048 : decode code 3048 = .ok (.iconst 1, 1) := by decide +kernel
theorem dL_law_3049 : decode code 3049 = .ok (.iadd, 1) := by decide +kernel
theorem dL_law_3050 : decode code 3050 = .ok (.iaload, 1) := by decide +kernel
theorem dL_law_3051 : decode code 3051 = .ok (.aload_n 3, 1) := by decide +kernel
theorem dL_law_3052 : decode code 3052 = .ok (.invokestatic 357, 3) := by decide +kernel
theorem dL_law_3055 : decode code 3055 = .ok (.istore 5, 2) := by decide +kernel
theorem dL_law_3057 : decode code 3057 = .ok (.aload_n 2, 1) := by decide +kernel
theorem dL_law_3058 : decode code 3058 = .ok (.aload_n 0, 1) := by decide +kernel
theorem dL_law_3059 : decode code 3059 = .ok (.iload 4, 2) := by decide +kernel
theorem dL_law_3061 : decode code 3061 = .ok (.iconst 1, 1) := by decide +kernel
theorem dL_law_3062 : decode code 3062 = .ok (.iadd, 1) := by decide +kernel
theorem dL_law_3063 : decode code 3063 = .ok (.iaload, 1) := by decide +kernel
theorem dL_law_3064 : decode code 3064 = .ok (.invokevirtual 359, 3) := by decide +kernel
theorem dL_law_3067 : decode code 3067 = .ok (.istore 6, 2) := by decide +kernel
theorem dL_law_3069 : decode code 3069 = .ok (.aload_n 2, 1) := by decide +kernel
theorem dL_law_3070 : decode code 3070 = .ok (.invokevirtual 166, 3) := by decide +kernel
theorem dL_law_3073 : decode code 3073 = .ok (.iload 5, 2) := by decide +kernel
theorem dL_law_3075 : decode code 3075 = .ok (.if_icmp .eq 5, 3) := by decide +kernel
theorem dL_law_3078 : decode code 3078 = .ok (.iconst 0, 1) := by decide +kernel
theorem dL_law_3079 : decode code 3079 = .ok (.ireturn, 1) := by decide +kernel
theorem dL_law_3080 : decode code 3080 = .ok (.iload 5, 2) := by decide +kernel
theorem dL_law_3082 : decode code 3082 = .ok (.ifCond .ne 15, 3) := by decide +kernel
theorem dL_law_3085 : decode code 3085 = .ok (.aload_n 3, 1) := by decide +kernel
theorem dL_law_3086 : decode code 3086 = .ok (.iconst 0, 1) := by decide +kernel
theorem dL_law_3087 : decode code 3087 = .ok (.laload, 1) := by decide +kernel
theorem dL_law_3088 : decode code 3088 = .ok (.iload 6, 2) := by decide +kernel
theorem dL_law_3090 : decode code 3090 = .ok (.i2l, 1) := by decide +kernel
theorem dL_law_3091 : decode code 3091 = .ok (.lcmp, 1) := by decide +kernel
theorem dL_law_3092 : decode code 3092 = .ok (.ifCond .eq 5, 3) := by decide +kernel
theorem dL_law_3095 : decode code 3095 = .ok (.iconst 0, 1) := by decide +kernel
theorem dL_law_3096 : decode code 3096 = .ok (.ireturn, 1) := by decide +kernel
theorem dL_law_3097 : decode code 3097 = .ok (.goto 384, 3) := by decide +kernel
theorem dL_law_3100 : decode code 3100 = .ok (.aload_n 1, 1) := by decide +kernel
theorem dL_law_3101 : decode code 3101 = .ok (.aload_n 0, 1) := by decide +kernel
theorem dL_law_3102 : decode code 3102 = .ok (.iload 4, 2) := by decide +kernel
theorem dL_law_3104 : decode code 3104 = .ok (.iconst 1, 1) := by decide +kernel
theorem dL_law_3105 : decode code 3105 = .ok (.iadd, 1) := by decide +kernel
theorem dL_law_3106 : decode code 3106 = .ok (.iaload, 1) := by decide +kernel
theorem dL_law_3107 : decode code 3107 = .ok (.aload_n 3, 1) := by decide +kernel
theorem dL_law_3108 : decode code 3108 = .ok (.invokestatic 360, 3) := by decide +kernel
theorem dL_law_3111 : decode code 3111 = .ok (.istore 5, 2) := by decide +kernel
theorem dL_law_3113 : decode code 3113 = .ok (.aload_n 2, 1) := by decide +kernel
theorem dL_law_3114 : decode code 3114 = .ok (.aload_n 0, 1) := by decide +kernel
theorem dL_law_3115 : decode code 3115 = .ok (.iload 4, 2) := by decide +kernel
theorem dL_law_3117 : decode code 3117 = .ok (.iconst 1, 1) := by decide +kernel
theorem dL_law_3118 : decode code 3118 = .ok (.iadd, 1) := by decide +kernel
theorem dL_law_3119 : decode code 3119 = .ok (.iaload, 1) := by decide +kernel
theorem dL_law_3120 : decode code 3120 = .ok (.invokevirtual 362, 3) := by decide +kernel
theorem dL_law_3123 : decode code 3123 = .ok (.istore 6, 2) := by decide +kernel
theorem dL_law_3125 : decode code 3125 = .ok (.aload_n 2, 1) := by decide +kernel
theorem dL_law_3126 : decode code 3126 = .ok (.invokevirtual 166, 3) := by decide +kernel
theorem dL_law_3129 : decode code 3129 = .ok (.iload 5, 2) := by decide +kernel
theorem dL_law_3131 : decode code 3131 = .ok (.if_icmp .eq 5, 3) := by decide +kernel
theorem dL_law_3134 : decode code 3134 = .ok (.iconst 0, 1) := by decide +kernel
theorem dL_law_3135 : decode code 3135 = .ok (.ireturn, 1) := by decide +kernel
theorem dL_law_3136 : decode code 3136 = .ok (.iload 5, 2) := by decide +kernel
theorem dL_law_3138 : decode code 3138 = .ok (.ifCond .ne 15, 3) := by decide +kernel
theorem dL_law_3141 : decode code 3141 = .ok (.aload_n 3, 1) := by decide +kernel
