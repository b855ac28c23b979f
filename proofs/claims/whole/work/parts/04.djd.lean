theorem dJ9_floorMod_0 : decode cJ9_floorMod 0 = .ok (.iload_n 0, 1) := by decide +kernel
theorem dJ9_floorMod_1 : decode cJ9_floorMod 1 = .ok (.iload_n 1, 1) := by decide +kernel
theorem dJ9_floorMod_2 : decode cJ9_floorMod 2 = .ok (.irem, 1) := by decide +kernel
theorem dJ9_floorMod_3 : decode cJ9_floorMod 3 = .ok (.istore_n 2, 1) := by decide +kernel
theorem dJ9_floorMod_4 : decode cJ9_floorMod 4 = .ok (.iload_n 0, 1) := by decide +kernel
theorem dJ9_floorMod_5 : decode cJ9_floorMod 5 = .ok (.iload_n 1, 1) := by decide +kernel
theorem dJ9_floorMod_6 : decode cJ9_floorMod 6 = .ok (.ixor, 1) := by decide +kernel
theorem dJ9_floorMod_7 : decode cJ9_floorMod 7 = .ok (.ifCond .ge 11, 3) := by decide +kernel
theorem dJ9_floorMod_10 : decode cJ9_floorMod 10 = .ok (.iload_n 2, 1) := by decide +kernel
theorem dJ9_floorMod_11 : decode cJ9_floorMod 11 = .ok (.ifCond .eq 7, 3) := by decide +kernel
theorem dJ9_floorMod_14 : decode cJ9_floorMod 14 = .ok (.iload_n 2, 1) := by decide +kernel
theorem dJ9_floorMod_15 : decode cJ9_floorMod 15 = .ok (.iload_n 1, 1) := by decide +kernel
theorem dJ9_floorMod_16 : decode cJ9_floorMod 16 = .ok (.iadd, 1) := by decide +kernel
theorem dJ9_floorMod_17 : decode cJ9_floorMod 17 = .ok (.ireturn, 1) := by decide +kernel
theorem dJ9_floorMod_18 : decode cJ9_floorMod 18 = .ok (.iload_n 2, 1) := by decide +kernel
theorem dJ9_floorMod_19 : decode cJ9_floorMod 19 = .ok (.ireturn, 1) := by decide +kernel
theorem dJ6_rotateRight_0 : decode cJ6_rotateRight 0 = .ok (.iload_n 0, 1) := by decide +kernel
theorem dJ6_rotateRight_1 : decode cJ6_rotateRight 1 = .ok (.iload_n 1, 1) := by decide +kernel
theorem dJ6_rotateRight_2 : decode cJ6_rotateRight 2 = .ok (.iushr, 1) := by decide +kernel
theorem dJ6_rotateRight_3 : decode cJ6_rotateRight 3 = .ok (.iload_n 0, 1) := by decide +kernel
theorem dJ6_rotateRight_4 : decode cJ6_rotateRight 4 = .ok (.iload_n 1, 1) := by decide +kernel
theorem dJ6_rotateRight_5 : decode cJ6_rotateRight 5 = .ok (.ineg, 1) := by decide +kernel
theorem dJ6_rotateRight_6 : decode cJ6_rotateRight 6 = .ok (.ishl, 1) := by decide +kernel
theorem dJ6_rotateRight_7 : decode cJ6_rotateRight 7 = .ok (.ior, 1) := by decide +kernel
theorem dJ6_rotateRight_8 : decode cJ6_rotateRight 8 = .ok (.ireturn, 1) := by decide +kernel
