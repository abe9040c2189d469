theorem el_886 : decode code 886 = .ok (.lstore 6, 2) := by decide +kernel
theorem el_888 : decode code 888 = .ok (.aload_n 2, 1) := by decide +kernel
theorem el_889 : decode code 889 = .ok (.invokevirtual 52, 3) := by decide +kernel
theorem el_892 : decode code 892 = .ok (.iload 5, 2) := by decide +kernel
theorem el_894 : decode code 894 = .ok (.if_icmp .eq 5, 3) := by decide +kernel
theorem el_899 : decode code 899 = .ok (.iload 5, 2) := by decide +kernel
theorem el_901 : decode code 901 = .ok (.ifCond .ne 14, 3) := by decide +kernel
theorem el_915 : decode code 915 = .ok (.goto 3, 3) := by decide +kernel
theorem el_918 : decode code 918 = .ok (.iinc 4 3, 3) := by decide +kernel
theorem el_921 : decode code 921 = .ok (.goto (-898), 3) := by decide +kernel
theorem el_924 : decode code 924 = .ok (.iconst 1, 1) := by decide +kernel
theorem el_925 : decode code 925 = .ok (.ireturn, 1) := by decide +kernel
