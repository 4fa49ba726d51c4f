theorem dX8_init_301 : decode cX8_init 301 = .ok (.iload_n 1, 1) := by decide +kernel
theorem dX8_init_302 : decode cX8_init 302 = .ok (.bipush 16, 2) := by decide +kernel
theorem dX8_init_304 : decode cX8_init 304 = .ok (.if_icmp .ge 16, 3) := by decide +kernel
theorem dX8_init_307 : decode cX8_init 307 = .ok (.aload_n 0, 1) := by decide +kernel
theorem dX8_init_308 : decode cX8_init 308 = .ok (.getfield 106, 3) := by decide +kernel
theorem dX8_init_311 : decode cX8_init 311 = .ok (.iload_n 1, 1) := by decide +kernel
theorem dX8_init_312 : decode cX8_init 312 = .ok (.iconst (-1), 1) := by decide +kernel
theorem dX8_init_313 : decode cX8_init 313 = .ok (.iastore, 1) := by decide +kernel
theorem dX8_init_314 : decode cX8_init 314 = .ok (.iinc 1 1, 3) := by decide +kernel
theorem dX8_init_317 : decode cX8_init 317 = .ok (.goto (-16), 3) := by decide +kernel
theorem dX8_init_320 : decode cX8_init 320 = .ok (.return_, 1) := by decide +kernel
