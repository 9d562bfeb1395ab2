theorem dL_law__3046 : decode cL_law_ 3046 = .ok (.iconst 0, 1) := by decide +kernel
theorem dL_law__3047 : decode cL_law_ 3047 = .ok (.ireturn, 1) := by decide +kernel
theorem dL_law__3048 : decode cL_law_ 3048 = .ok (.aload_n 1, 1) := by decide +kernel
theorem dL_law__3049 : decode cL_law_ 3049 = .ok (.aload_n 0, 1) := by decide +kernel
theorem dL_law__3050 : decode cL_law_ 3050 = .ok (.iload 4, 2) := by decide +kernel
theorem dL_law__3052 : decode cL_law_ 3052 = .ok (.iconst 1, 1) := by decide +kernel
theorem dL_law__3053 : decode cL_law_ 3053 = .ok (.iadd, 1) := by decide +kernel
theorem dL_law__3054 : decode cL_law_ 3054 = .ok (.iaload, 1) := by decide +kernel
theorem dL_law__3055 : decode cL_law_ 3055 = .ok (.invokevirtual 332, 3) := by decide +kernel
theorem dL_law__3058 : decode cL_law_ 3058 = .ok (.aload_n 2, 1) := by decide +kernel
theorem dL_law__3059 : decode cL_law_ 3059 = .ok (.aload_n 0, 1) := by decide +kernel
theorem dL_law__3060 : decode cL_law_ 3060 = .ok (.iload 4, 2) := by decide +kernel
theorem dL_law__3062 : decode cL_law_ 3062 = .ok (.iconst 1, 1) := by decide +kernel
theorem dL_law__3063 : decode cL_law_ 3063 = .ok (.iadd, 1) := by decide +kernel
theorem dL_law__3064 : decode cL_law_ 3064 = .ok (.iaload, 1) := by decide +kernel
theorem dL_law__3065 : decode cL_law_ 3065 = .ok (.invokevirtual 335, 3) := by decide +kernel
theorem dL_law__3068 : decode cL_law_ 3068 = .ok (.if_icmp .eq 5, 3) := by decide +kernel
theorem dL_law__3071 : decode cL_law_ 3071 = .ok (.iconst 0, 1) := by decide +kernel
theorem dL_law__3072 : decode cL_law_ 3072 = .ok (.ireturn, 1) := by decide +kernel
theorem dL_law__3073 : decode cL_law_ 3073 = .ok (.iinc 4 6, 3) := by decide +kernel
theorem dL_law__3076 : decode cL_law_ 3076 = .ok (.goto (-3053), 3) := by decide +kernel
theorem dL_law__3079 : decode cL_law_ 3079 = .ok (.iconst 1, 1) := by decide +kernel
theorem dL_law__3080 : decode cL_law_ 3080 = .ok (.ireturn, 1) := by decide +kernel
