theorem d_law_630 : decode code 630 = .ok (.iadd, 1) := by decide +kernel
theorem d_law_631 : decode code 631 = .ok (.iaload, 1) := by decide +kernel
theorem d_law_632 : decode code 632 = .ok (.invokevirtual 99, 3) := by decide +kernel
theorem d_law_635 : decode code 635 = .ok (.if_icmp .eq 28, 3) := by decide +kernel
theorem d_law_638 : decode code 638 = .ok (.iconst 0, 1) := by decide +kernel
theorem d_law_639 : decode code 639 = .ok (.ireturn, 1) := by decide +kernel
theorem d_law_640 : decode code 640 = .ok (.aload_n 1, 1) := by decide +kernel
theorem d_law_641 : decode code 641 = .ok (.aload_n 0, 1) := by decide +kernel
theorem d_law_642 : decode code 642 = .ok (.iload_n 3, 1) := by decide +kernel
theorem d_law_643 : decode code 643 = .ok (.iconst 1, 1) := by decide +kernel
theorem d_law_644 : decode code 644 = .ok (.iadd, 1) := by decide +kernel
theorem d_law_645 : decode code 645 = .ok (.iaload, 1) := by decide +kernel
theorem d_law_646 : decode code 646 = .ok (.invokevirtual 100, 3) := by decide +kernel
theorem d_law_649 : decode code 649 = .ok (.aload_n 2, 1) := by decide +kernel
theorem d_law_650 : decode code 650 = .ok (.aload_n 0, 1) := by decide +kernel
theorem d_law_651 : decode code 651 = .ok (.iload_n 3, 1) := by decide +kernel
theorem d_law_652 : decode code 652 = .ok (.iconst 1, 1) := by decide +kernel
theorem d_law_653 : decode code 653 = .ok (.iadd, 1) := by decide +kernel
theorem d_law_654 : decode code 654 = .ok (.iaload, 1) := by decide +kernel
theorem d_law_655 : decode code 655 = .ok (.invokevirtual 103, 3) := by decide +kernel
theorem d_law_658 : decode code 658 = .ok (.if_icmp .eq 5, 3) := by decide +kernel
theorem d_law_661 : decode code 661 = .ok (.iconst 0, 1) := by decide +kernel
theorem d_law_662 : decode code 662 = .ok (.ireturn, 1) := by decide +kernel
theorem d_law_663 : decode code 663 = .ok (.iinc 3 5, 3) := by decide +kernel
theorem d_law_666 : decode code 666 = .ok (.goto (-638), 3) := by decide +kernel
theorem d_law_669 : decode code 669 = .ok (.iconst 1, 1) := by decide +kernel
theorem d_law_670 : decode code 670 = .ok (.ireturn, 1) := by decide +kernel
