theorem d_law_546 : decode code 546 = .ok (.iload_n 3, 1) := by decide +kernel
theorem d_law_547 : decode code 547 = .ok (.iconst 1, 1) := by decide +kernel
theorem d_law_548 : decode code 548 = .ok (.iadd, 1) := by decide +kernel
theorem d_law_549 : decode code 549 = .ok (.iaload, 1) := by decide +kernel
theorem d_law_550 : decode code 550 = .ok (.invokevirtual 82, 3) := by decide +kernel
theorem d_law_553 : decode code 553 = .ok (.if_icmp .eq 110, 3) := by decide +kernel
theorem d_law_556 : decode code 556 = .ok (.iconst 0, 1) := by decide +kernel
theorem d_law_557 : decode code 557 = .ok (.ireturn, 1) := by decide +kernel
theorem d_law_558 : decode code 558 = .ok (.aload_n 1, 1) := by decide +kernel
theorem d_law_559 : decode code 559 = .ok (.invokevirtual 83, 3) := by decide +kernel
theorem d_law_562 : decode code 562 = .ok (.aload_n 2, 1) := by decide +kernel
theorem d_law_563 : decode code 563 = .ok (.invokevirtual 87, 3) := by decide +kernel
theorem d_law_566 : decode code 566 = .ok (.if_icmp .eq 97, 3) := by decide +kernel
theorem d_law_569 : decode code 569 = .ok (.iconst 0, 1) := by decide +kernel
theorem d_law_570 : decode code 570 = .ok (.ireturn, 1) := by decide +kernel
theorem d_law_571 : decode code 571 = .ok (.aload_n 1, 1) := by decide +kernel
theorem d_law_572 : decode code 572 = .ok (.invokevirtual 88, 3) := by decide +kernel
theorem d_law_575 : decode code 575 = .ok (.aload_n 2, 1) := by decide +kernel
theorem d_law_576 : decode code 576 = .ok (.invokevirtual 91, 3) := by decide +kernel
theorem d_law_579 : decode code 579 = .ok (.if_icmp .eq 84, 3) := by decide +kernel
theorem d_law_582 : decode code 582 = .ok (.iconst 0, 1) := by decide +kernel
theorem d_law_583 : decode code 583 = .ok (.ireturn, 1) := by decide +kernel
theorem d_law_584 : decode code 584 = .ok (.aload_n 1, 1) := by decide +kernel
theorem d_law_585 : decode code 585 = .ok (.aload_n 0, 1) := by decide +kernel
theorem d_law_586 : decode code 586 = .ok (.iload_n 3, 1) := by decide +kernel
theorem d_law_587 : decode code 587 = .ok (.iconst 1, 1) := by decide +kernel
theorem d_law_588 : decode code 588 = .ok (.iadd, 1) := by decide +kernel
theorem d_law_589 : decode code 589 = .ok (.iaload, 1) := by decide +kernel
theorem d_law_590 : decode code 590 = .ok (.aload_n 0, 1) := by decide +kernel
theorem d_law_591 : decode code 591 = .ok (.iload_n 3, 1) := by decide +kernel
theorem d_law_592 : decode code 592 = .ok (.iconst 2, 1) := by decide +kernel
theorem d_law_593 : decode code 593 = .ok (.iadd, 1) := by decide +kernel
theorem d_law_594 : decode code 594 = .ok (.iaload, 1) := by decide +kernel
theorem d_law_595 : decode code 595 = .ok (.invokevirtual 92, 3) := by decide +kernel
theorem d_law_598 : decode code 598 = .ok (.aload_n 2, 1) := by decide +kernel
theorem d_law_599 : decode code 599 = .ok (.aload_n 0, 1) := by decide +kernel
theorem d_law_600 : decode code 600 = .ok (.iload_n 3, 1) := by decide +kernel
theorem d_law_601 : decode code 601 = .ok (.iconst 1, 1) := by decide +kernel
theorem d_law_602 : decode code 602 = .ok (.iadd, 1) := by decide +kernel
theorem d_law_603 : decode code 603 = .ok (.iaload, 1) := by decide +kernel
theorem d_law_604 : decode code 604 = .ok (.aload_n 0, 1) := by decide +kernel
theorem d_law_605 : decode code 605 = .ok (.iload_n 3, 1) := by decide +kernel
theorem d_law_606 : decode code 606 = .ok (.iconst 2, 1) := by decide +kernel
theorem d_law_607 : decode code 607 = .ok (.iadd, 1) := by decide +kernel
theorem d_law_608 : decode code 608 = .ok (.iaload, 1) := by decide +kernel
theorem d_law_609 : decode code 609 = .ok (.invokevirtual 95, 3) := by decide +kernel
theorem d_law_612 : decode code 612 = .ok (.if_icmp .eq 51, 3) := by decide +kernel
theorem d_law_615 : decode code 615 = .ok (.iconst 0, 1) := by decide +kernel
theorem d_law_616 : decode code 616 = .ok (.ireturn, 1) := by decide +kernel
theorem d_law_617 : decode code 617 = .ok (.aload_n 1, 1) := by decide +kernel
theorem d_law_618 : decode code 618 = .ok (.aload_n 0, 1) := by decide +kernel
theorem d_law_619 : decode code 619 = .ok (.iload_n 3, 1) := by decide +kernel
theorem d_law_620 : decode code 620 = .ok (.iconst 1, 1) := by decide +kernel
theorem d_law_621 : decode code 621 = .ok (.iadd, 1) := by decide +kernel
theorem d_law_622 : decode code 622 = .ok (.iaload, 1) := by decide +kernel
theorem d_law_623 : decode code 623 = .ok (.invokevirtual 96, 3) := by decide +kernel
theorem d_law_626 : decode code 626 = .ok (.aload_n 2, 1) := by decide +kernel
theorem d_law_627 : decode code 627 = .ok (.aload_n 0, 1) := by decide +kernel
theorem d_law_628 : decode code 628 = .ok (.iload_n 3, 1) := by decide +kernel
theorem d_law_629 : decode code 629 = .ok (.iconst 1, 1) := by decide +kernel
