theorem dL_law_3134 : decode cL_law 3134 = .ok (.if_icmp .eq 5, 3) := by decide +kernel
theorem dL_law_3137 : decode cL_law 3137 = .ok (.iconst 0, 1) := by decide +kernel
theorem dL_law_3138 : decode cL_law 3138 = .ok (.ireturn, 1) := by decide +kernel
theorem dL_law_3139 : decode cL_law 3139 = .ok (.iload 6, 2) := by decide +kernel
theorem dL_law_3141 : decode cL_law 3141 = .ok (.ifCond .ne 35, 3) := by decide +kernel
theorem dL_law_3144 : decode cL_law 3144 = .ok (.aload 4, 2) := by decide +kernel
theorem dL_law_3146 : decode cL_law 3146 = .ok (.iconst 0, 1) := by decide +kernel
theorem dL_law_3147 : decode cL_law 3147 = .ok (.daload, 1) := by decide +kernel
theorem dL_law_3148 : decode cL_law 3148 = .ok (.dload 7, 2) := by decide +kernel
theorem dL_law_3150 : decode cL_law 3150 = .ok (.dcmp .l, 1) := by decide +kernel
theorem dL_law_3151 : decode cL_law 3151 = .ok (.ifCond .eq 25, 3) := by decide +kernel
theorem dL_law_3154 : decode cL_law 3154 = .ok (.aload 4, 2) := by decide +kernel
theorem dL_law_3156 : decode cL_law 3156 = .ok (.iconst 0, 1) := by decide +kernel
theorem dL_law_3157 : decode cL_law 3157 = .ok (.daload, 1) := by decide +kernel
theorem dL_law_3158 : decode cL_law 3158 = .ok (.aload 4, 2) := by decide +kernel
theorem dL_law_3160 : decode cL_law 3160 = .ok (.iconst 0, 1) := by decide +kernel
theorem dL_law_3161 : decode cL_law 3161 = .ok (.daload, 1) := by decide +kernel
theorem dL_law_3162 : decode cL_law 3162 = .ok (.dcmp .l, 1) := by decide +kernel
theorem dL_law_3163 : decode cL_law 3163 = .ok (.ifCond .eq 11, 3) := by decide +kernel
theorem dL_law_3166 : decode cL_law 3166 = .ok (.dload 7, 2) := by decide +kernel
theorem dL_law_3168 : decode cL_law 3168 = .ok (.dload 7, 2) := by decide +kernel
theorem dL_law_3170 : decode cL_law 3170 = .ok (.dcmp .l, 1) := by decide +kernel
theorem dL_law_3171 : decode cL_law 3171 = .ok (.ifCond .ne 5, 3) := by decide +kernel
theorem dL_law_3174 : decode cL_law 3174 = .ok (.iconst 0, 1) := by decide +kernel
theorem dL_law_3175 : decode cL_law 3175 = .ok (.ireturn, 1) := by decide +kernel
theorem dL_law_3176 : decode cL_law 3176 = .ok (.goto 30, 3) := by decide +kernel
theorem dL_law_3179 : decode cL_law 3179 = .ok (.aload_n 1, 1) := by decide +kernel
theorem dL_law_3180 : decode cL_law 3180 = .ok (.invokevirtual 298, 3) := by decide +kernel
theorem dL_law_3183 : decode cL_law 3183 = .ok (.aload_n 2, 1) := by decide +kernel
theorem dL_law_3184 : decode cL_law 3184 = .ok (.invokevirtual 302, 3) := by decide +kernel
theorem dL_law_3187 : decode cL_law 3187 = .ok (.lcmp, 1) := by decide +kernel
theorem dL_law_3188 : decode cL_law 3188 = .ok (.ifCond .eq 18, 3) := by decide +kernel
theorem dL_law_3191 : decode cL_law 3191 = .ok (.iconst 0, 1) := by decide +kernel
theorem dL_law_3192 : decode cL_law 3192 = .ok (.ireturn, 1) := by decide +kernel
theorem dL_law_3193 : decode cL_law 3193 = .ok (.aload_n 1, 1) := by decide +kernel
theorem dL_law_3194 : decode cL_law 3194 = .ok (.invokevirtual 303, 3) := by decide +kernel
theorem dL_law_3197 : decode cL_law 3197 = .ok (.aload_n 2, 1) := by decide +kernel
theorem dL_law_3198 : decode cL_law 3198 = .ok (.invokevirtual 307, 3) := by decide +kernel
theorem dL_law_3201 : decode cL_law 3201 = .ok (.if_icmp .eq 5, 3) := by decide +kernel
theorem dL_law_3204 : decode cL_law 3204 = .ok (.iconst 0, 1) := by decide +kernel
theorem dL_law_3205 : decode cL_law 3205 = .ok (.ireturn, 1) := by decide +kernel
theorem dL_law_3206 : decode cL_law 3206 = .ok (.iinc 5 9, 3) := by decide +kernel
theorem dL_law_3209 : decode cL_law 3209 = .ok (.goto (-3181), 3) := by decide +kernel
theorem dL_law_3212 : decode cL_law 3212 = .ok (.iconst 1, 1) := by decide +kernel
theorem dL_law_3213 : decode cL_law 3213 = .ok (.ireturn, 1) := by decide +kernel
