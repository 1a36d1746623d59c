theorem d_L_law_536 : decode code 536 = .ok (.iadd, 1) := by decide +kernel
theorem d_L_law_537 : decode code 537 = .ok (.iaload, 1) := by decide +kernel
theorem d_L_law_538 : decode code 538 = .ok (.invokevirtual 67, 3) := by decide +kernel
theorem d_L_law_541 : decode code 541 = .ok (.aload_n 2, 1) := by decide +kernel
theorem d_L_law_542 : decode code 542 = .ok (.aload_n 0, 1) := by decide +kernel
theorem d_L_law_543 : decode code 543 = .ok (.iload_n 3, 1) := by decide +kernel
theorem d_L_law_544 : decode code 544 = .ok (.iconst 1, 1) := by decide +kernel
theorem d_L_law_545 : decode code 545 = .ok (.iadd, 1) := by decide +kernel
theorem d_L_law_546 : decode code 546 = .ok (.iaload, 1) := by decide +kernel
theorem d_L_law_547 : decode code 547 = .ok (.invokevirtual 71, 3) := by decide +kernel
theorem d_L_law_550 : decode code 550 = .ok (.if_icmp .eq 82, 3) := by decide +kernel
theorem d_L_law_553 : decode code 553 = .ok (.iconst 0, 1) := by decide +kernel
theorem d_L_law_554 : decode code 554 = .ok (.ireturn, 1) := by decide +kernel
theorem d_L_law_555 : decode code 555 = .ok (.aload_n 1, 1) := by decide +kernel
theorem d_L_law_556 : decode code 556 = .ok (.invokevirtual 72, 3) := by decide +kernel
theorem d_L_law_559 : decode code 559 = .ok (.aload_n 2, 1) := by decide +kernel
theorem d_L_law_560 : decode code 560 = .ok (.invokevirtual 75, 3) := by decide +kernel
theorem d_L_law_563 : decode code 563 = .ok (.if_icmp .eq 69, 3) := by decide +kernel
theorem d_L_law_566 : decode code 566 = .ok (.iconst 0, 1) := by decide +kernel
theorem d_L_law_567 : decode code 567 = .ok (.ireturn, 1) := by decide +kernel
theorem d_L_law_568 : decode code 568 = .ok (.aload_n 1, 1) := by decide +kernel
theorem d_L_law_569 : decode code 569 = .ok (.invokevirtual 76, 3) := by decide +kernel
theorem d_L_law_572 : decode code 572 = .ok (.aload_n 2, 1) := by decide +kernel
theorem d_L_law_573 : decode code 573 = .ok (.invokevirtual 79, 3) := by decide +kernel
theorem d_L_law_576 : decode code 576 = .ok (.if_icmp .eq 56, 3) := by decide +kernel
theorem d_L_law_579 : decode code 579 = .ok (.iconst 0, 1) := by decide +kernel
theorem d_L_law_580 : decode code 580 = .ok (.ireturn, 1) := by decide +kernel
theorem d_L_law_581 : decode code 581 = .ok (.aload_n 1, 1) := by decide +kernel
theorem d_L_law_582 : decode code 582 = .ok (.invokevirtual 80, 3) := by decide +kernel
theorem d_L_law_585 : decode code 585 = .ok (.aload_n 2, 1) := by decide +kernel
theorem d_L_law_586 : decode code 586 = .ok (.invokevirtual 83, 3) := by decide +kernel
theorem d_L_law_589 : decode code 589 = .ok (.lcmp, 1) := by decide +kernel
theorem d_L_law_590 : decode code 590 = .ok (.ifCond .eq 42, 3) := by decide +kernel
theorem d_L_law_593 : decode code 593 = .ok (.iconst 0, 1) := by decide +kernel
theorem d_L_law_594 : decode code 594 = .ok (.ireturn, 1) := by decide +kernel
theorem d_L_law_595 : decode code 595 = .ok (.aload_n 1, 1) := by decide +kernel
theorem d_L_law_596 : decode code 596 = .ok (.invokevirtual 84, 3) := by decide +kernel
theorem d_L_law_599 : decode code 599 = .ok (.aload_n 2, 1) := by decide +kernel
theorem d_L_law_600 : decode code 600 = .ok (.invokevirtual 87, 3) := by decide +kernel
theorem d_L_law_603 : decode code 603 = .ok (.if_icmp .eq 29, 3) := by decide +kernel
theorem d_L_law_606 : decode code 606 = .ok (.iconst 0, 1) := by decide +kernel
theorem d_L_law_607 : decode code 607 = .ok (.ireturn, 1) := by decide +kernel
theorem d_L_law_608 : decode code 608 = .ok (.aload_n 1, 1) := by decide +kernel
theorem d_L_law_609 : decode code 609 = .ok (.aload_n 0, 1) := by decide +kernel
theorem d_L_law_610 : decode code 610 = .ok (.iload_n 3, 1) := by decide +kernel
theorem d_L_law_611 : decode code 611 = .ok (.iconst 1, 1) := by decide +kernel
theorem d_L_law_612 : decode code 612 = .ok (.iadd, 1) := by decide +kernel
theorem d_L_law_613 : decode code 613 = .ok (.iaload, 1) := by decide +kernel
theorem d_L_law_614 : decode code 614 = .ok (.invokevirtual 88, 3) := by decide +kernel
theorem d_L_law_617 : decode code 617 = .ok (.aload_n 2, 1) := by decide +kernel
theorem d_L_law_618 : decode code 618 = .ok (.aload_n 0, 1) := by decide +kernel
theorem d_L_law_619 : decode code 619 = .ok (.iload_n 3, 1) := by decide +kernel
theorem d_L_law_620 : decode code 620 = .ok (.iconst 1, 1) := by decide +kernel
theorem d_L_law_621 : decode code 621 = .ok (.iadd, 1) := by decide +kernel
theorem d_L_law_622 : decode code 622 = .ok (.iaload, 1) := by decide +kernel
theorem d_L_law_623 : decode code 623 = .ok (.invokevirtual 92, 3) := by decide +kernel
theorem d_L_law_626 : decode code 626 = .ok (.lcmp, 1) := by decide +kernel
theorem d_L_law_627 : decode code 627 = .ok (.ifCond .eq 5, 3) := by decide +kernel
theorem d_L_law_630 : decode code 630 = .ok (.iconst 0, 1) := by decide +kernel
theorem d_L_law_631 : decode code 631 = .ok (.ireturn, 1) := by decide +kernel
theorem d_L_law_632 : decode code 632 = .ok (.iinc 3 7, 3) := by decide +kernel
theorem d_L_law_635 : decode code 635 = .ok (.goto (-607), 3) := by decide +kernel
theorem d_L_law_638 : decode code 638 = .ok (.iconst 1, 1) := by decide +kernel
theorem d_L_law_639 : decode code 639 = .ok (.ireturn, 1) := by decide +kernel
