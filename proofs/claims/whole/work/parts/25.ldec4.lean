theorem dL_law_1718 : decode cL_law 1718 = .ok (.if_icmp .eq 5, 3) := by decide +kernel
theorem dL_law_1721 : decode cL_law 1721 = .ok (.iconst 0, 1) := by decide +kernel
theorem dL_law_1722 : decode cL_law 1722 = .ok (.ireturn, 1) := by decide +kernel
theorem dL_law_1723 : decode cL_law 1723 = .ok (.iload 5, 2) := by decide +kernel
theorem dL_law_1725 : decode cL_law 1725 = .ok (.ifCond .ne 15, 3) := by decide +kernel
theorem dL_law_1728 : decode cL_law 1728 = .ok (.aload_n 3, 1) := by decide +kernel
theorem dL_law_1729 : decode cL_law 1729 = .ok (.iconst 0, 1) := by decide +kernel
theorem dL_law_1730 : decode cL_law 1730 = .ok (.laload, 1) := by decide +kernel
theorem dL_law_1731 : decode cL_law 1731 = .ok (.iload 6, 2) := by decide +kernel
theorem dL_law_1733 : decode cL_law 1733 = .ok (.i2l, 1) := by decide +kernel
theorem dL_law_1734 : decode cL_law 1734 = .ok (.lcmp, 1) := by decide +kernel
theorem dL_law_1735 : decode cL_law 1735 = .ok (.ifCond .eq 5, 3) := by decide +kernel
theorem dL_law_1738 : decode cL_law 1738 = .ok (.iconst 0, 1) := by decide +kernel
theorem dL_law_1739 : decode cL_law 1739 = .ok (.ireturn, 1) := by decide +kernel
theorem dL_law_1740 : decode cL_law 1740 = .ok (.goto 3, 3) := by decide +kernel
theorem dL_law_1743 : decode cL_law 1743 = .ok (.iinc 4 4, 3) := by decide +kernel
theorem dL_law_1746 : decode cL_law 1746 = .ok (.goto (-1723), 3) := by decide +kernel
theorem dL_law_1749 : decode cL_law 1749 = .ok (.iconst 1, 1) := by decide +kernel
theorem dL_law_1750 : decode cL_law 1750 = .ok (.ireturn, 1) := by decide +kernel
