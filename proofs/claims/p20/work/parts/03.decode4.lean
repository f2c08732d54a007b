theorem dX5_isSame_490 : decode cX5_isSame 490 = .ok (.astore 5, 2) := by decide +kernel
theorem dX5_isSame_492 : decode cX5_isSame 492 = .ok (.aload_n 2, 1) := by decide +kernel
theorem dX5_isSame_493 : decode cX5_isSame 493 = .ok (.bipush 10, 2) := by decide +kernel
theorem dX5_isSame_495 : decode cX5_isSame 495 = .ok (.dup2, 1) := by decide +kernel
theorem dX5_isSame_496 : decode cX5_isSame 496 = .ok (.iaload, 1) := by decide +kernel
theorem dX5_isSame_497 : decode cX5_isSame 497 = .ok (.aload_n 0, 1) := by decide +kernel
theorem dX5_isSame_498 : decode cX5_isSame 498 = .ok (.aload 5, 2) := by decide +kernel
theorem dX5_isSame_500 : decode cX5_isSame 500 = .ok (.iconst 0, 1) := by decide +kernel
theorem dX5_isSame_501 : decode cX5_isSame 501 = .ok (.iaload, 1) := by decide +kernel
theorem dX5_isSame_502 : decode cX5_isSame 502 = .ok (.aload 5, 2) := by decide +kernel
theorem dX5_isSame_504 : decode cX5_isSame 504 = .ok (.iconst 1, 1) := by decide +kernel
theorem dX5_isSame_505 : decode cX5_isSame 505 = .ok (.iaload, 1) := by decide +kernel
theorem dX5_isSame_506 : decode cX5_isSame 506 = .ok (.invokevirtual 45, 3) := by decide +kernel
theorem dX5_isSame_509 : decode cX5_isSame 509 = .ok (.ifCond .eq 7, 3) := by decide +kernel
theorem dX5_isSame_512 : decode cX5_isSame 512 = .ok (.iconst 0, 1) := by decide +kernel
theorem dX5_isSame_513 : decode cX5_isSame 513 = .ok (.goto 4, 3) := by decide +kernel
theorem dX5_isSame_516 : decode cX5_isSame 516 = .ok (.iconst 1, 1) := by decide +kernel
theorem dX5_isSame_517 : decode cX5_isSame 517 = .ok (.iadd, 1) := by decide +kernel
theorem dX5_isSame_518 : decode cX5_isSame 518 = .ok (.iastore, 1) := by decide +kernel
theorem dX5_isSame_519 : decode cX5_isSame 519 = .ok (.iload_n 3, 1) := by decide +kernel
theorem dX5_isSame_520 : decode cX5_isSame 520 = .ok (.aload 5, 2) := by decide +kernel
theorem dX5_isSame_522 : decode cX5_isSame 522 = .ok (.iconst 2, 1) := by decide +kernel
theorem dX5_isSame_523 : decode cX5_isSame 523 = .ok (.iaload, 1) := by decide +kernel
theorem dX5_isSame_524 : decode cX5_isSame 524 = .ok (.iadd, 1) := by decide +kernel
theorem dX5_isSame_525 : decode cX5_isSame 525 = .ok (.istore_n 3, 1) := by decide +kernel
theorem dX5_isSame_526 : decode cX5_isSame 526 = .ok (.aload_n 1, 1) := by decide +kernel
theorem dX5_isSame_527 : decode cX5_isSame 527 = .ok (.iload 4, 2) := by decide +kernel
theorem dX5_isSame_529 : decode cX5_isSame 529 = .ok (.iconst 0, 1) := by decide +kernel
theorem dX5_isSame_530 : decode cX5_isSame 530 = .ok (.invokevirtual 85, 3) := by decide +kernel
theorem dX5_isSame_533 : decode cX5_isSame 533 = .ok (.aload 5, 2) := by decide +kernel
theorem dX5_isSame_535 : decode cX5_isSame 535 = .ok (.iconst 0, 1) := by decide +kernel
theorem dX5_isSame_536 : decode cX5_isSame 536 = .ok (.iaload, 1) := by decide +kernel
theorem dX5_isSame_537 : decode cX5_isSame 537 = .ok (.if_icmp .ne 53, 3) := by decide +kernel
theorem dX5_isSame_540 : decode cX5_isSame 540 = .ok (.aload_n 1, 1) := by decide +kernel
theorem dX5_isSame_541 : decode cX5_isSame 541 = .ok (.iload 4, 2) := by decide +kernel
theorem dX5_isSame_543 : decode cX5_isSame 543 = .ok (.iconst 1, 1) := by decide +kernel
theorem dX5_isSame_544 : decode cX5_isSame 544 = .ok (.invokevirtual 85, 3) := by decide +kernel
theorem dX5_isSame_547 : decode cX5_isSame 547 = .ok (.aload 5, 2) := by decide +kernel
theorem dX5_isSame_549 : decode cX5_isSame 549 = .ok (.iconst 1, 1) := by decide +kernel
theorem dX5_isSame_550 : decode cX5_isSame 550 = .ok (.iaload, 1) := by decide +kernel
theorem dX5_isSame_551 : decode cX5_isSame 551 = .ok (.if_icmp .ne 39, 3) := by decide +kernel
theorem dX5_isSame_554 : decode cX5_isSame 554 = .ok (.aload_n 1, 1) := by decide +kernel
theorem dX5_isSame_555 : decode cX5_isSame 555 = .ok (.iload 4, 2) := by decide +kernel
theorem dX5_isSame_557 : decode cX5_isSame 557 = .ok (.iconst 2, 1) := by decide +kernel
theorem dX5_isSame_558 : decode cX5_isSame 558 = .ok (.invokevirtual 85, 3) := by decide +kernel
theorem dX5_isSame_561 : decode cX5_isSame 561 = .ok (.aload 5, 2) := by decide +kernel
theorem dX5_isSame_563 : decode cX5_isSame 563 = .ok (.iconst 2, 1) := by decide +kernel
theorem dX5_isSame_564 : decode cX5_isSame 564 = .ok (.iaload, 1) := by decide +kernel
theorem dX5_isSame_565 : decode cX5_isSame 565 = .ok (.if_icmp .ne 25, 3) := by decide +kernel
theorem dX5_isSame_568 : decode cX5_isSame 568 = .ok (.aload_n 1, 1) := by decide +kernel
theorem dX5_isSame_569 : decode cX5_isSame 569 = .ok (.iload 4, 2) := by decide +kernel
theorem dX5_isSame_571 : decode cX5_isSame 571 = .ok (.iconst 3, 1) := by decide +kernel
theorem dX5_isSame_572 : decode cX5_isSame 572 = .ok (.invokevirtual 85, 3) := by decide +kernel
theorem dX5_isSame_575 : decode cX5_isSame 575 = .ok (.aload_n 0, 1) := by decide +kernel
theorem dX5_isSame_576 : decode cX5_isSame 576 = .ok (.aload 5, 2) := by decide +kernel
theorem dX5_isSame_578 : decode cX5_isSame 578 = .ok (.iconst 0, 1) := by decide +kernel
theorem dX5_isSame_579 : decode cX5_isSame 579 = .ok (.iaload, 1) := by decide +kernel
theorem dX5_isSame_580 : decode cX5_isSame 580 = .ok (.aload 5, 2) := by decide +kernel
theorem dX5_isSame_582 : decode cX5_isSame 582 = .ok (.iconst 1, 1) := by decide +kernel
theorem dX5_isSame_583 : decode cX5_isSame 583 = .ok (.iaload, 1) := by decide +kernel
theorem dX5_isSame_584 : decode cX5_isSame 584 = .ok (.invokevirtual 26, 3) := by decide +kernel
theorem dX5_isSame_587 : decode cX5_isSame 587 = .ok (.if_icmp .eq 5, 3) := by decide +kernel
theorem dX5_isSame_590 : decode cX5_isSame 590 = .ok (.iconst 0, 1) := by decide +kernel
theorem dX5_isSame_591 : decode cX5_isSame 591 = .ok (.ireturn, 1) := by decide +kernel
theorem dX5_isSame_592 : decode cX5_isSame 592 = .ok (.iinc 4 1, 3) := by decide +kernel
theorem dX5_isSame_595 : decode cX5_isSame 595 = .ok (.goto (-122), 3) := by decide +kernel
theorem dX5_isSame_598 : decode cX5_isSame 598 = .ok (.iconst 0, 1) := by decide +kernel
theorem dX5_isSame_599 : decode cX5_isSame 599 = .ok (.istore 4, 2) := by decide +kernel
theorem dX5_isSame_601 : decode cX5_isSame 601 = .ok (.iload 4, 2) := by decide +kernel
theorem dX5_isSame_603 : decode cX5_isSame 603 = .ok (.bipush 11, 2) := by decide +kernel
theorem dX5_isSame_605 : decode cX5_isSame 605 = .ok (.if_icmp .ge 24, 3) := by decide +kernel
theorem dX5_isSame_608 : decode cX5_isSame 608 = .ok (.aload_n 1, 1) := by decide +kernel
theorem dX5_isSame_609 : decode cX5_isSame 609 = .ok (.iload 4, 2) := by decide +kernel
theorem dX5_isSame_611 : decode cX5_isSame 611 = .ok (.invokevirtual 88, 3) := by decide +kernel
theorem dX5_isSame_614 : decode cX5_isSame 614 = .ok (.aload_n 2, 1) := by decide +kernel
theorem dX5_isSame_615 : decode cX5_isSame 615 = .ok (.iload 4, 2) := by decide +kernel
theorem dX5_isSame_617 : decode cX5_isSame 617 = .ok (.iaload, 1) := by decide +kernel
theorem dX5_isSame_618 : decode cX5_isSame 618 = .ok (.if_icmp .eq 5, 3) := by decide +kernel
theorem dX5_isSame_621 : decode cX5_isSame 621 = .ok (.iconst 0, 1) := by decide +kernel
theorem dX5_isSame_622 : decode cX5_isSame 622 = .ok (.ireturn, 1) := by decide +kernel
theorem dX5_isSame_623 : decode cX5_isSame 623 = .ok (.iinc 4 1, 3) := by decide +kernel
theorem dX5_isSame_626 : decode cX5_isSame 626 = .ok (.goto (-25), 3) := by decide +kernel
theorem dX5_isSame_629 : decode cX5_isSame 629 = .ok (.aload_n 1, 1) := by decide +kernel
theorem dX5_isSame_630 : decode cX5_isSame 630 = .ok (.invokevirtual 91, 3) := by decide +kernel
theorem dX5_isSame_633 : decode cX5_isSame 633 = .ok (.aload_n 0, 1) := by decide +kernel
theorem dX5_isSame_634 : decode cX5_isSame 634 = .ok (.getfield 15, 3) := by decide +kernel
theorem dX5_isSame_637 : decode cX5_isSame 637 = .ok (.arraylength, 1) := by decide +kernel
theorem dX5_isSame_638 : decode cX5_isSame 638 = .ok (.ifCond .ne 7, 3) := by decide +kernel
theorem dX5_isSame_641 : decode cX5_isSame 641 = .ok (.dconst 0, 1) := by decide +kernel
theorem dX5_isSame_642 : decode cX5_isSame 642 = .ok (.goto 12, 3) := by decide +kernel
theorem dX5_isSame_645 : decode cX5_isSame 645 = .ok (.iload_n 3, 1) := by decide +kernel
theorem dX5_isSame_646 : decode cX5_isSame 646 = .ok (.i2d, 1) := by decide +kernel
theorem dX5_isSame_647 : decode cX5_isSame 647 = .ok (.aload_n 0, 1) := by decide +kernel
theorem dX5_isSame_648 : decode cX5_isSame 648 = .ok (.getfield 15, 3) := by decide +kernel
theorem dX5_isSame_651 : decode cX5_isSame 651 = .ok (.arraylength, 1) := by decide +kernel
theorem dX5_isSame_652 : decode cX5_isSame 652 = .ok (.i2d, 1) := by decide +kernel
theorem dX5_isSame_653 : decode cX5_isSame 653 = .ok (.ddiv, 1) := by decide +kernel
theorem dX5_isSame_654 : decode cX5_isSame 654 = .ok (.dcmp .l, 1) := by decide +kernel
theorem dX5_isSame_655 : decode cX5_isSame 655 = .ok (.ifCond .ne 7, 3) := by decide +kernel
theorem dX5_isSame_658 : decode cX5_isSame 658 = .ok (.iconst 1, 1) := by decide +kernel
theorem dX5_isSame_659 : decode cX5_isSame 659 = .ok (.goto 4, 3) := by decide +kernel
theorem dX5_isSame_662 : decode cX5_isSame 662 = .ok (.iconst 0, 1) := by decide +kernel
theorem dX5_isSame_663 : decode cX5_isSame 663 = .ok (.ireturn, 1) := by decide +kernel
theorem dJ9_max_7cf53_0 : decode cJ9_max_7cf53 0 = .ok (.iload_n 0, 1) := by decide +kernel
theorem dJ9_max_7cf53_1 : decode cJ9_max_7cf53 1 = .ok (.iload_n 1, 1) := by decide +kernel
theorem dJ9_max_7cf53_2 : decode cJ9_max_7cf53 2 = .ok (.if_icmp .lt 7, 3) := by decide +kernel
theorem dJ9_max_7cf53_5 : decode cJ9_max_7cf53 5 = .ok (.iload_n 0, 1) := by decide +kernel
theorem dJ9_max_7cf53_6 : decode cJ9_max_7cf53 6 = .ok (.goto 4, 3) := by decide +kernel
theorem dJ9_max_7cf53_9 : decode cJ9_max_7cf53 9 = .ok (.iload_n 1, 1) := by decide +kernel
theorem dJ9_max_7cf53_10 : decode cJ9_max_7cf53 10 = .ok (.ireturn, 1) := by decide +kernel
theorem dJ9_min_7cf53_0 : decode cJ9_min_7cf53 0 = .ok (.iload_n 0, 1) := by decide +kernel
theorem dJ9_min_7cf53_1 : decode cJ9_min_7cf53 1 = .ok (.iload_n 1, 1) := by decide +kernel
theorem dJ9_min_7cf53_2 : decode cJ9_min_7cf53 2 = .ok (.if_icmp .gt 7, 3) := by decide +kernel
theorem dJ9_min_7cf53_5 : decode cJ9_min_7cf53 5 = .ok (.iload_n 0, 1) := by decide +kernel
theorem dJ9_min_7cf53_6 : decode cJ9_min_7cf53 6 = .ok (.goto 4, 3) := by decide +kernel
theorem dJ9_min_7cf53_9 : decode cJ9_min_7cf53 9 = .ok (.iload_n 1, 1) := by decide +kernel
theorem dJ9_min_7cf53_10 : decode cJ9_min_7cf53 10 = .ok (.ireturn, 1) := by decide +kernel
theorem dJxa1e45_init_da8c8_0 : decode cJxa1e45_init_da8c8 0 = .ok (.aload_n 0, 1) := by decide +kernel
theorem dJxa1e45_init_da8c8_1 : decode cJxa1e45_init_da8c8 1 = .ok (.invokespecial 1, 3) := by decide +kernel
theorem dJxa1e45_init_da8c8_4 : decode cJxa1e45_init_da8c8 4 = .ok (.return_, 1) := by decide +kernel
theorem dJxc12de_init_da8c8_0 : decode cJxc12de_init_da8c8 0 = .ok (.aload_n 0, 1) := by decide +kernel
theorem dJxc12de_init_da8c8_1 : decode cJxc12de_init_da8c8 1 = .ok (.invokespecial 1, 3) := by decide +kernel
theorem dJxc12de_init_da8c8_4 : decode cJxc12de_init_da8c8 4 = .ok (.aload_n 0, 1) := by decide +kernel
theorem dJxc12de_init_da8c8_5 : decode cJxc12de_init_da8c8 5 = .ok (.iconst 0, 1) := by decide +kernel
theorem dJxc12de_init_da8c8_6 : decode cJxc12de_init_da8c8 6 = .ok (.putfield 7, 3) := by decide +kernel
theorem dJxc12de_init_da8c8_9 : decode cJxc12de_init_da8c8 9 = .ok (.return_, 1) := by decide +kernel
theorem dJx4a65c_init_da8c8_0 : decode cJx4a65c_init_da8c8 0 = .ok (.aload_n 0, 1) := by decide +kernel
theorem dJx4a65c_init_da8c8_1 : decode cJx4a65c_init_da8c8 1 = .ok (.invokespecial 1, 3) := by decide +kernel
theorem dJx4a65c_init_da8c8_4 : decode cJx4a65c_init_da8c8 4 = .ok (.aload_n 0, 1) := by decide +kernel
theorem dJx4a65c_init_da8c8_5 : decode cJx4a65c_init_da8c8 5 = .ok (.getstatic 39, 3) := by decide +kernel
theorem dJx4a65c_init_da8c8_8 : decode cJx4a65c_init_da8c8 8 = .ok (.putfield 9, 3) := by decide +kernel
theorem dJx4a65c_init_da8c8_11 : decode cJx4a65c_init_da8c8 11 = .ok (.return_, 1) := by decide +kernel
theorem dJx4a65c_grow_92f84_0 : decode cJx4a65c_grow_92f84 0 = .ok (.aload_n 0, 1) := by decide +kernel
theorem dJx4a65c_grow_92f84_1 : decode cJx4a65c_grow_92f84 1 = .ok (.getfield 9, 3) := by decide +kernel
theorem dJx4a65c_grow_92f84_4 : decode cJx4a65c_grow_92f84 4 = .ok (.arraylength, 1) := by decide +kernel
theorem dJx4a65c_grow_92f84_5 : decode cJx4a65c_grow_92f84 5 = .ok (.istore_n 2, 1) := by decide +kernel
theorem dJx4a65c_grow_92f84_6 : decode cJx4a65c_grow_92f84 6 = .ok (.iload_n 2, 1) := by decide +kernel
theorem dJx4a65c_grow_92f84_7 : decode cJx4a65c_grow_92f84 7 = .ok (.ifCond .gt 13, 3) := by decide +kernel
theorem dJx4a65c_grow_92f84_10 : decode cJx4a65c_grow_92f84 10 = .ok (.aload_n 0, 1) := by decide +kernel
theorem dJx4a65c_grow_92f84_11 : decode cJx4a65c_grow_92f84 11 = .ok (.getfield 9, 3) := by decide +kernel
theorem dJx4a65c_grow_92f84_14 : decode cJx4a65c_grow_92f84 14 = .ok (.getstatic 39, 3) := by decide +kernel
theorem dJx4a65c_grow_92f84_17 : decode cJx4a65c_grow_92f84 17 = .ok (.if_acmp .eq 28, 3) := by decide +kernel
theorem dJx4a65c_grow_92f84_20 : decode cJx4a65c_grow_92f84 20 = .ok (.iload_n 2, 1) := by decide +kernel
theorem dJx4a65c_grow_92f84_21 : decode cJx4a65c_grow_92f84 21 = .ok (.iload_n 1, 1) := by decide +kernel
theorem dJx4a65c_grow_92f84_22 : decode cJx4a65c_grow_92f84 22 = .ok (.iload_n 2, 1) := by decide +kernel
theorem dJx4a65c_grow_92f84_23 : decode cJx4a65c_grow_92f84 23 = .ok (.isub, 1) := by decide +kernel
theorem dJx4a65c_grow_92f84_24 : decode cJx4a65c_grow_92f84 24 = .ok (.iload_n 2, 1) := by decide +kernel
theorem dJx4a65c_grow_92f84_25 : decode cJx4a65c_grow_92f84 25 = .ok (.iconst 1, 1) := by decide +kernel
theorem dJx4a65c_grow_92f84_26 : decode cJx4a65c_grow_92f84 26 = .ok (.ishr, 1) := by decide +kernel
theorem dJx4a65c_grow_92f84_27 : decode cJx4a65c_grow_92f84 27 = .ok (.invokestatic 73, 3) := by decide +kernel
theorem dJx4a65c_grow_92f84_30 : decode cJx4a65c_grow_92f84 30 = .ok (.istore_n 3, 1) := by decide +kernel
theorem dJx4a65c_grow_92f84_31 : decode cJx4a65c_grow_92f84 31 = .ok (.aload_n 0, 1) := by decide +kernel
theorem dJx4a65c_grow_92f84_32 : decode cJx4a65c_grow_92f84 32 = .ok (.aload_n 0, 1) := by decide +kernel
theorem dJx4a65c_grow_92f84_33 : decode cJx4a65c_grow_92f84 33 = .ok (.getfield 9, 3) := by decide +kernel
theorem dJx4a65c_grow_92f84_36 : decode cJx4a65c_grow_92f84 36 = .ok (.iload_n 3, 1) := by decide +kernel
theorem dJx4a65c_grow_92f84_37 : decode cJx4a65c_grow_92f84 37 = .ok (.invokestatic 66, 3) := by decide +kernel
theorem dJx4a65c_grow_92f84_40 : decode cJx4a65c_grow_92f84 40 = .ok (.dup_x1, 1) := by decide +kernel
theorem dJx4a65c_grow_92f84_41 : decode cJx4a65c_grow_92f84 41 = .ok (.putfield 9, 3) := by decide +kernel
theorem dJx4a65c_grow_92f84_44 : decode cJx4a65c_grow_92f84 44 = .ok (.areturn, 1) := by decide +kernel
theorem dJx4a65c_grow_92f84_45 : decode cJx4a65c_grow_92f84 45 = .ok (.aload_n 0, 1) := by decide +kernel
theorem dJx4a65c_grow_92f84_46 : decode cJx4a65c_grow_92f84 46 = .ok (.bipush 10, 2) := by decide +kernel
theorem dJx4a65c_grow_92f84_48 : decode cJx4a65c_grow_92f84 48 = .ok (.iload_n 1, 1) := by decide +kernel
theorem dJx4a65c_grow_92f84_49 : decode cJx4a65c_grow_92f84 49 = .ok (.invokestatic 79, 3) := by decide +kernel
theorem dJx4a65c_grow_92f84_52 : decode cJx4a65c_grow_92f84 52 = .ok (.anewarray 7, 3) := by decide +kernel
theorem dJx4a65c_grow_92f84_55 : decode cJx4a65c_grow_92f84 55 = .ok (.dup_x1, 1) := by decide +kernel
theorem dJx4a65c_grow_92f84_56 : decode cJx4a65c_grow_92f84 56 = .ok (.putfield 9, 3) := by decide +kernel
theorem dJx4a65c_grow_92f84_59 : decode cJx4a65c_grow_92f84 59 = .ok (.areturn, 1) := by decide +kernel
theorem dJx4a65c_grow_d5877_0 : decode cJx4a65c_grow_d5877 0 = .ok (.aload_n 0, 1) := by decide +kernel
theorem dJx4a65c_grow_d5877_1 : decode cJx4a65c_grow_d5877 1 = .ok (.aload_n 0, 1) := by decide +kernel
theorem dJx4a65c_grow_d5877_2 : decode cJx4a65c_grow_d5877 2 = .ok (.getfield 48, 3) := by decide +kernel
theorem dJx4a65c_grow_d5877_5 : decode cJx4a65c_grow_d5877 5 = .ok (.iconst 1, 1) := by decide +kernel
theorem dJx4a65c_grow_d5877_6 : decode cJx4a65c_grow_d5877 6 = .ok (.iadd, 1) := by decide +kernel
theorem dJx4a65c_grow_d5877_7 : decode cJx4a65c_grow_d5877 7 = .ok (.invokevirtual 69, 3) := by decide +kernel
theorem dJx4a65c_grow_d5877_10 : decode cJx4a65c_grow_d5877 10 = .ok (.areturn, 1) := by decide +kernel
theorem dJx4a65c_size_8abf5_0 : decode cJx4a65c_size_8abf5 0 = .ok (.aload_n 0, 1) := by decide +kernel
theorem dJx4a65c_size_8abf5_1 : decode cJx4a65c_size_8abf5 1 = .ok (.getfield 48, 3) := by decide +kernel
theorem dJx4a65c_size_8abf5_4 : decode cJx4a65c_size_8abf5 4 = .ok (.ireturn, 1) := by decide +kernel
theorem dJx4a65c_elementData_915e3_0 : decode cJx4a65c_elementData_915e3 0 = .ok (.aload_n 0, 1) := by decide +kernel
theorem dJx4a65c_elementData_915e3_1 : decode cJx4a65c_elementData_915e3 1 = .ok (.getfield 9, 3) := by decide +kernel
theorem dJx4a65c_elementData_915e3_4 : decode cJx4a65c_elementData_915e3 4 = .ok (.iload_n 1, 1) := by decide +kernel
theorem dJx4a65c_elementData_915e3_5 : decode cJx4a65c_elementData_915e3 5 = .ok (.aaload, 1) := by decide +kernel
theorem dJx4a65c_elementData_915e3_6 : decode cJx4a65c_elementData_915e3 6 = .ok (.areturn, 1) := by decide +kernel
theorem dJx4a65c_get_915e3_0 : decode cJx4a65c_get_915e3 0 = .ok (.iload_n 1, 1) := by decide +kernel
theorem dJx4a65c_get_915e3_1 : decode cJx4a65c_get_915e3 1 = .ok (.aload_n 0, 1) := by decide +kernel
theorem dJx4a65c_get_915e3_2 : decode cJx4a65c_get_915e3 2 = .ok (.getfield 48, 3) := by decide +kernel
theorem dJx4a65c_get_915e3_5 : decode cJx4a65c_get_915e3 5 = .ok (.invokestatic 118, 3) := by decide +kernel
theorem dJx4a65c_get_915e3_8 : decode cJx4a65c_get_915e3 8 = .ok (.pop, 1) := by decide +kernel
theorem dJx4a65c_get_915e3_9 : decode cJx4a65c_get_915e3 9 = .ok (.aload_n 0, 1) := by decide +kernel
theorem dJx4a65c_get_915e3_10 : decode cJx4a65c_get_915e3 10 = .ok (.iload_n 1, 1) := by decide +kernel
theorem dJx4a65c_get_915e3_11 : decode cJx4a65c_get_915e3 11 = .ok (.invokevirtual 123, 3) := by decide +kernel
theorem dJx4a65c_get_915e3_14 : decode cJx4a65c_get_915e3 14 = .ok (.areturn, 1) := by decide +kernel
theorem dJx4a65c_add_72be8_0 : decode cJx4a65c_add_72be8 0 = .ok (.iload_n 3, 1) := by decide +kernel
theorem dJx4a65c_add_72be8_1 : decode cJx4a65c_add_72be8 1 = .ok (.aload_n 2, 1) := by decide +kernel
theorem dJx4a65c_add_72be8_2 : decode cJx4a65c_add_72be8 2 = .ok (.arraylength, 1) := by decide +kernel
theorem dJx4a65c_add_72be8_3 : decode cJx4a65c_add_72be8 3 = .ok (.if_icmp .ne 8, 3) := by decide +kernel
theorem dJx4a65c_add_72be8_6 : decode cJx4a65c_add_72be8 6 = .ok (.aload_n 0, 1) := by decide +kernel
theorem dJx4a65c_add_72be8_7 : decode cJx4a65c_add_72be8 7 = .ok (.invokevirtual 129, 3) := by decide +kernel
theorem dJx4a65c_add_72be8_10 : decode cJx4a65c_add_72be8 10 = .ok (.astore_n 2, 1) := by decide +kernel
theorem dJx4a65c_add_72be8_11 : decode cJx4a65c_add_72be8 11 = .ok (.aload_n 2, 1) := by decide +kernel
theorem dJx4a65c_add_72be8_12 : decode cJx4a65c_add_72be8 12 = .ok (.iload_n 3, 1) := by decide +kernel
theorem dJx4a65c_add_72be8_13 : decode cJx4a65c_add_72be8 13 = .ok (.aload_n 1, 1) := by decide +kernel
theorem dJx4a65c_add_72be8_14 : decode cJx4a65c_add_72be8 14 = .ok (.aastore, 1) := by decide +kernel
theorem dJx4a65c_add_72be8_15 : decode cJx4a65c_add_72be8 15 = .ok (.aload_n 0, 1) := by decide +kernel
theorem dJx4a65c_add_72be8_16 : decode cJx4a65c_add_72be8 16 = .ok (.iload_n 3, 1) := by decide +kernel
theorem dJx4a65c_add_72be8_17 : decode cJx4a65c_add_72be8 17 = .ok (.iconst 1, 1) := by decide +kernel
theorem dJx4a65c_add_72be8_18 : decode cJx4a65c_add_72be8 18 = .ok (.iadd, 1) := by decide +kernel
theorem dJx4a65c_add_72be8_19 : decode cJx4a65c_add_72be8 19 = .ok (.putfield 48, 3) := by decide +kernel
theorem dJx4a65c_add_72be8_22 : decode cJx4a65c_add_72be8 22 = .ok (.return_, 1) := by decide +kernel
theorem dJx4a65c_add_9ea2d_0 : decode cJx4a65c_add_9ea2d 0 = .ok (.aload_n 0, 1) := by decide +kernel
theorem dJx4a65c_add_9ea2d_1 : decode cJx4a65c_add_9ea2d 1 = .ok (.dup, 1) := by decide +kernel
theorem dJx4a65c_add_9ea2d_2 : decode cJx4a65c_add_9ea2d 2 = .ok (.getfield 63, 3) := by decide +kernel
theorem dJx4a65c_add_9ea2d_5 : decode cJx4a65c_add_9ea2d 5 = .ok (.iconst 1, 1) := by decide +kernel
theorem dJx4a65c_add_9ea2d_6 : decode cJx4a65c_add_9ea2d 6 = .ok (.iadd, 1) := by decide +kernel
theorem dJx4a65c_add_9ea2d_7 : decode cJx4a65c_add_9ea2d 7 = .ok (.putfield 63, 3) := by decide +kernel
theorem dJx4a65c_add_9ea2d_10 : decode cJx4a65c_add_9ea2d 10 = .ok (.aload_n 0, 1) := by decide +kernel
theorem dJx4a65c_add_9ea2d_11 : decode cJx4a65c_add_9ea2d 11 = .ok (.aload_n 1, 1) := by decide +kernel
theorem dJx4a65c_add_9ea2d_12 : decode cJx4a65c_add_9ea2d 12 = .ok (.aload_n 0, 1) := by decide +kernel
theorem dJx4a65c_add_9ea2d_13 : decode cJx4a65c_add_9ea2d 13 = .ok (.getfield 9, 3) := by decide +kernel
theorem dJx4a65c_add_9ea2d_16 : decode cJx4a65c_add_9ea2d 16 = .ok (.aload_n 0, 1) := by decide +kernel
theorem dJx4a65c_add_9ea2d_17 : decode cJx4a65c_add_9ea2d 17 = .ok (.getfield 48, 3) := by decide +kernel
theorem dJx4a65c_add_9ea2d_20 : decode cJx4a65c_add_9ea2d 20 = .ok (.invokevirtual 131, 3) := by decide +kernel
theorem dJx4a65c_add_9ea2d_23 : decode cJx4a65c_add_9ea2d 23 = .ok (.iconst 1, 1) := by decide +kernel
theorem dJx4a65c_add_9ea2d_24 : decode cJx4a65c_add_9ea2d 24 = .ok (.ireturn, 1) := by decide +kernel
theorem dJx4a65c_remove_915e3_0 : decode cJx4a65c_remove_915e3 0 = .ok (.iload_n 1, 1) := by decide +kernel
theorem dJx4a65c_remove_915e3_1 : decode cJx4a65c_remove_915e3 1 = .ok (.aload_n 0, 1) := by decide +kernel
theorem dJx4a65c_remove_915e3_2 : decode cJx4a65c_remove_915e3 2 = .ok (.getfield 48, 3) := by decide +kernel
theorem dJx4a65c_remove_915e3_5 : decode cJx4a65c_remove_915e3 5 = .ok (.invokestatic 118, 3) := by decide +kernel
theorem dJx4a65c_remove_915e3_8 : decode cJx4a65c_remove_915e3 8 = .ok (.pop, 1) := by decide +kernel
theorem dJx4a65c_remove_915e3_9 : decode cJx4a65c_remove_915e3 9 = .ok (.aload_n 0, 1) := by decide +kernel
theorem dJx4a65c_remove_915e3_10 : decode cJx4a65c_remove_915e3 10 = .ok (.getfield 9, 3) := by decide +kernel
theorem dJx4a65c_remove_915e3_13 : decode cJx4a65c_remove_915e3 13 = .ok (.astore_n 2, 1) := by decide +kernel
theorem dJx4a65c_remove_915e3_14 : decode cJx4a65c_remove_915e3 14 = .ok (.aload_n 2, 1) := by decide +kernel
theorem dJx4a65c_remove_915e3_15 : decode cJx4a65c_remove_915e3 15 = .ok (.iload_n 1, 1) := by decide +kernel
theorem dJx4a65c_remove_915e3_16 : decode cJx4a65c_remove_915e3 16 = .ok (.aaload, 1) := by decide +kernel
theorem dJx4a65c_remove_915e3_17 : decode cJx4a65c_remove_915e3 17 = .ok (.astore_n 3, 1) := by decide +kernel
theorem dJx4a65c_remove_915e3_18 : decode cJx4a65c_remove_915e3 18 = .ok (.aload_n 0, 1) := by decide +kernel
theorem dJx4a65c_remove_915e3_19 : decode cJx4a65c_remove_915e3 19 = .ok (.aload_n 2, 1) := by decide +kernel
theorem dJx4a65c_remove_915e3_20 : decode cJx4a65c_remove_915e3 20 = .ok (.iload_n 1, 1) := by decide +kernel
theorem dJx4a65c_remove_915e3_21 : decode cJx4a65c_remove_915e3 21 = .ok (.invokevirtual 144, 3) := by decide +kernel
theorem dJx4a65c_remove_915e3_24 : decode cJx4a65c_remove_915e3 24 = .ok (.aload_n 3, 1) := by decide +kernel
theorem dJx4a65c_remove_915e3_25 : decode cJx4a65c_remove_915e3 25 = .ok (.areturn, 1) := by decide +kernel
theorem dJx4a65c_fastRemove_b59b0_0 : decode cJx4a65c_fastRemove_b59b0 0 = .ok (.aload_n 0, 1) := by decide +kernel
theorem dJx4a65c_fastRemove_b59b0_1 : decode cJx4a65c_fastRemove_b59b0 1 = .ok (.dup, 1) := by decide +kernel
theorem dJx4a65c_fastRemove_b59b0_2 : decode cJx4a65c_fastRemove_b59b0 2 = .ok (.getfield 63, 3) := by decide +kernel
theorem dJx4a65c_fastRemove_b59b0_5 : decode cJx4a65c_fastRemove_b59b0 5 = .ok (.iconst 1, 1) := by decide +kernel
theorem dJx4a65c_fastRemove_b59b0_6 : decode cJx4a65c_fastRemove_b59b0 6 = .ok (.iadd, 1) := by decide +kernel
theorem dJx4a65c_fastRemove_b59b0_7 : decode cJx4a65c_fastRemove_b59b0 7 = .ok (.putfield 63, 3) := by decide +kernel
theorem dJx4a65c_fastRemove_b59b0_10 : decode cJx4a65c_fastRemove_b59b0 10 = .ok (.aload_n 0, 1) := by decide +kernel
theorem dJx4a65c_fastRemove_b59b0_11 : decode cJx4a65c_fastRemove_b59b0 11 = .ok (.getfield 48, 3) := by decide +kernel
theorem dJx4a65c_fastRemove_b59b0_14 : decode cJx4a65c_fastRemove_b59b0 14 = .ok (.iconst 1, 1) := by decide +kernel
theorem dJx4a65c_fastRemove_b59b0_15 : decode cJx4a65c_fastRemove_b59b0 15 = .ok (.isub, 1) := by decide +kernel
theorem dJx4a65c_fastRemove_b59b0_16 : decode cJx4a65c_fastRemove_b59b0 16 = .ok (.dup, 1) := by decide +kernel
theorem dJx4a65c_fastRemove_b59b0_17 : decode cJx4a65c_fastRemove_b59b0 17 = .ok (.istore_n 3, 1) := by decide +kernel
theorem dJx4a65c_fastRemove_b59b0_18 : decode cJx4a65c_fastRemove_b59b0 18 = .ok (.iload_n 2, 1) := by decide +kernel
theorem dJx4a65c_fastRemove_b59b0_19 : decode cJx4a65c_fastRemove_b59b0 19 = .ok (.if_icmp .le 15, 3) := by decide +kernel
theorem dJx4a65c_fastRemove_b59b0_22 : decode cJx4a65c_fastRemove_b59b0 22 = .ok (.aload_n 1, 1) := by decide +kernel
theorem dJx4a65c_fastRemove_b59b0_23 : decode cJx4a65c_fastRemove_b59b0 23 = .ok (.iload_n 2, 1) := by decide +kernel
theorem dJx4a65c_fastRemove_b59b0_24 : decode cJx4a65c_fastRemove_b59b0 24 = .ok (.iconst 1, 1) := by decide +kernel
theorem dJx4a65c_fastRemove_b59b0_25 : decode cJx4a65c_fastRemove_b59b0 25 = .ok (.iadd, 1) := by decide +kernel
theorem dJx4a65c_fastRemove_b59b0_26 : decode cJx4a65c_fastRemove_b59b0 26 = .ok (.aload_n 1, 1) := by decide +kernel
theorem dJx4a65c_fastRemove_b59b0_27 : decode cJx4a65c_fastRemove_b59b0 27 = .ok (.iload_n 2, 1) := by decide +kernel
theorem dJx4a65c_fastRemove_b59b0_28 : decode cJx4a65c_fastRemove_b59b0 28 = .ok (.iload_n 3, 1) := by decide +kernel
theorem dJx4a65c_fastRemove_b59b0_29 : decode cJx4a65c_fastRemove_b59b0 29 = .ok (.iload_n 2, 1) := by decide +kernel
theorem dJx4a65c_fastRemove_b59b0_30 : decode cJx4a65c_fastRemove_b59b0 30 = .ok (.isub, 1) := by decide +kernel
theorem dJx4a65c_fastRemove_b59b0_31 : decode cJx4a65c_fastRemove_b59b0 31 = .ok (.invokestatic 112, 3) := by decide +kernel
theorem dJx4a65c_fastRemove_b59b0_34 : decode cJx4a65c_fastRemove_b59b0 34 = .ok (.aload_n 1, 1) := by decide +kernel
theorem dJx4a65c_fastRemove_b59b0_35 : decode cJx4a65c_fastRemove_b59b0 35 = .ok (.aload_n 0, 1) := by decide +kernel
theorem dJx4a65c_fastRemove_b59b0_36 : decode cJx4a65c_fastRemove_b59b0 36 = .ok (.iload_n 3, 1) := by decide +kernel
theorem dJx4a65c_fastRemove_b59b0_37 : decode cJx4a65c_fastRemove_b59b0 37 = .ok (.dup_x1, 1) := by decide +kernel
theorem dJx4a65c_fastRemove_b59b0_38 : decode cJx4a65c_fastRemove_b59b0 38 = .ok (.putfield 48, 3) := by decide +kernel
theorem dJx4a65c_fastRemove_b59b0_41 : decode cJx4a65c_fastRemove_b59b0 41 = .ok (.aconst_null, 1) := by decide +kernel
theorem dJx4a65c_fastRemove_b59b0_42 : decode cJx4a65c_fastRemove_b59b0 42 = .ok (.aastore, 1) := by decide +kernel
theorem dJx4a65c_fastRemove_b59b0_43 : decode cJx4a65c_fastRemove_b59b0 43 = .ok (.return_, 1) := by decide +kernel
theorem dJ7_fill_53178_0 : decode cJ7_fill_53178 0 = .ok (.iconst 0, 1) := by decide +kernel
theorem dJ7_fill_53178_1 : decode cJ7_fill_53178 1 = .ok (.istore_n 2, 1) := by decide +kernel
theorem dJ7_fill_53178_2 : decode cJ7_fill_53178 2 = .ok (.aload_n 0, 1) := by decide +kernel
theorem dJ7_fill_53178_3 : decode cJ7_fill_53178 3 = .ok (.arraylength, 1) := by decide +kernel
theorem dJ7_fill_53178_4 : decode cJ7_fill_53178 4 = .ok (.istore_n 3, 1) := by decide +kernel
theorem dJ7_fill_53178_5 : decode cJ7_fill_53178 5 = .ok (.iload_n 2, 1) := by decide +kernel
theorem dJ7_fill_53178_6 : decode cJ7_fill_53178 6 = .ok (.iload_n 3, 1) := by decide +kernel
theorem dJ7_fill_53178_7 : decode cJ7_fill_53178 7 = .ok (.if_icmp .ge 13, 3) := by decide +kernel
theorem dJ7_fill_53178_10 : decode cJ7_fill_53178 10 = .ok (.aload_n 0, 1) := by decide +kernel
theorem dJ7_fill_53178_11 : decode cJ7_fill_53178 11 = .ok (.iload_n 2, 1) := by decide +kernel
theorem dJ7_fill_53178_12 : decode cJ7_fill_53178 12 = .ok (.iload_n 1, 1) := by decide +kernel
theorem dJ7_fill_53178_13 : decode cJ7_fill_53178 13 = .ok (.iastore, 1) := by decide +kernel
theorem dJ7_fill_53178_14 : decode cJ7_fill_53178 14 = .ok (.iinc 2 1, 3) := by decide +kernel
theorem dJ7_fill_53178_17 : decode cJ7_fill_53178 17 = .ok (.goto (-12), 3) := by decide +kernel
theorem dJ7_fill_53178_20 : decode cJ7_fill_53178 20 = .ok (.return_, 1) := by decide +kernel
theorem dJ7_copyOf_1904c_0 : decode cJ7_copyOf_1904c 0 = .ok (.aload_n 0, 1) := by decide +kernel
theorem dJ7_copyOf_1904c_1 : decode cJ7_copyOf_1904c 1 = .ok (.iload_n 1, 1) := by decide +kernel
theorem dJ7_copyOf_1904c_2 : decode cJ7_copyOf_1904c 2 = .ok (.aload_n 0, 1) := by decide +kernel
theorem dJ7_copyOf_1904c_3 : decode cJ7_copyOf_1904c 3 = .ok (.invokevirtual 86, 3) := by decide +kernel
theorem dJ7_copyOf_1904c_6 : decode cJ7_copyOf_1904c 6 = .ok (.invokestatic 300, 3) := by decide +kernel
theorem dJ7_copyOf_1904c_9 : decode cJ7_copyOf_1904c 9 = .ok (.areturn, 1) := by decide +kernel
theorem dJ7_copyOf_6403c_0 : decode cJ7_copyOf_6403c 0 = .ok (.aload_n 2, 1) := by decide +kernel
theorem dJ7_copyOf_6403c_1 : decode cJ7_copyOf_6403c 1 = .ok (.ldc 110, 2) := by decide +kernel
theorem dJ7_copyOf_6403c_3 : decode cJ7_copyOf_6403c 3 = .ok (.if_acmp .ne 10, 3) := by decide +kernel
theorem dJ7_copyOf_6403c_6 : decode cJ7_copyOf_6403c 6 = .ok (.iload_n 1, 1) := by decide +kernel
theorem dJ7_copyOf_6403c_7 : decode cJ7_copyOf_6403c 7 = .ok (.anewarray 2, 3) := by decide +kernel
theorem dJ7_copyOf_6403c_10 : decode cJ7_copyOf_6403c 10 = .ok (.goto 14, 3) := by decide +kernel
theorem dJ7_copyOf_6403c_13 : decode cJ7_copyOf_6403c 13 = .ok (.aload_n 2, 1) := by decide +kernel
theorem dJ7_copyOf_6403c_14 : decode cJ7_copyOf_6403c 14 = .ok (.invokevirtual 90, 3) := by decide +kernel
theorem dJ7_copyOf_6403c_17 : decode cJ7_copyOf_6403c 17 = .ok (.iload_n 1, 1) := by decide +kernel
theorem dJ7_copyOf_6403c_18 : decode cJ7_copyOf_6403c 18 = .ok (.invokestatic 95, 3) := by decide +kernel
theorem dJ7_copyOf_6403c_21 : decode cJ7_copyOf_6403c 21 = .ok (.checkcast 110, 3) := by decide +kernel
theorem dJ7_copyOf_6403c_24 : decode cJ7_copyOf_6403c 24 = .ok (.astore_n 3, 1) := by decide +kernel
theorem dJ7_copyOf_6403c_25 : decode cJ7_copyOf_6403c 25 = .ok (.aload_n 0, 1) := by decide +kernel
theorem dJ7_copyOf_6403c_26 : decode cJ7_copyOf_6403c 26 = .ok (.iconst 0, 1) := by decide +kernel
theorem dJ7_copyOf_6403c_27 : decode cJ7_copyOf_6403c 27 = .ok (.aload_n 3, 1) := by decide +kernel
theorem dJ7_copyOf_6403c_28 : decode cJ7_copyOf_6403c 28 = .ok (.iconst 0, 1) := by decide +kernel
theorem dJ7_copyOf_6403c_29 : decode cJ7_copyOf_6403c 29 = .ok (.aload_n 0, 1) := by decide +kernel
theorem dJ7_copyOf_6403c_30 : decode cJ7_copyOf_6403c 30 = .ok (.arraylength, 1) := by decide +kernel
theorem dJ7_copyOf_6403c_31 : decode cJ7_copyOf_6403c 31 = .ok (.iload_n 1, 1) := by decide +kernel
theorem dJ7_copyOf_6403c_32 : decode cJ7_copyOf_6403c 32 = .ok (.invokestatic 304, 3) := by decide +kernel
theorem dJ7_copyOf_6403c_35 : decode cJ7_copyOf_6403c 35 = .ok (.invokestatic 150, 3) := by decide +kernel
theorem dJ7_copyOf_6403c_38 : decode cJ7_copyOf_6403c 38 = .ok (.aload_n 3, 1) := by decide +kernel
theorem dJ7_copyOf_6403c_39 : decode cJ7_copyOf_6403c 39 = .ok (.areturn, 1) := by decide +kernel
theorem dJ15_checkIndex_7cf53_0 : decode cJ15_checkIndex_7cf53 0 = .ok (.iload_n 0, 1) := by decide +kernel
theorem dJ15_checkIndex_7cf53_1 : decode cJ15_checkIndex_7cf53 1 = .ok (.iload_n 1, 1) := by decide +kernel
theorem dJ15_checkIndex_7cf53_2 : decode cJ15_checkIndex_7cf53 2 = .ok (.aconst_null, 1) := by decide +kernel
theorem dJ15_checkIndex_7cf53_3 : decode cJ15_checkIndex_7cf53 3 = .ok (.invokestatic 105, 3) := by decide +kernel
theorem dJ15_checkIndex_7cf53_6 : decode cJ15_checkIndex_7cf53 6 = .ok (.ireturn, 1) := by decide +kernel
theorem dJ8_newLength_cabcc_0 : decode cJ8_newLength_cabcc 0 = .ok (.iload_n 0, 1) := by decide +kernel
theorem dJ8_newLength_cabcc_1 : decode cJ8_newLength_cabcc 1 = .ok (.iload_n 1, 1) := by decide +kernel
theorem dJ8_newLength_cabcc_2 : decode cJ8_newLength_cabcc 2 = .ok (.iload_n 2, 1) := by decide +kernel
theorem dJ8_newLength_cabcc_3 : decode cJ8_newLength_cabcc 3 = .ok (.invokestatic 194, 3) := by decide +kernel
theorem dJ8_newLength_cabcc_6 : decode cJ8_newLength_cabcc 6 = .ok (.iadd, 1) := by decide +kernel
theorem dJ8_newLength_cabcc_7 : decode cJ8_newLength_cabcc 7 = .ok (.istore_n 3, 1) := by decide +kernel
theorem dJ8_newLength_cabcc_8 : decode cJ8_newLength_cabcc 8 = .ok (.iconst 0, 1) := by decide +kernel
theorem dJ8_newLength_cabcc_9 : decode cJ8_newLength_cabcc 9 = .ok (.iload_n 3, 1) := by decide +kernel
theorem dJ8_newLength_cabcc_10 : decode cJ8_newLength_cabcc 10 = .ok (.if_icmp .ge 11, 3) := by decide +kernel
theorem dJ8_newLength_cabcc_13 : decode cJ8_newLength_cabcc 13 = .ok (.iload_n 3, 1) := by decide +kernel
theorem dJ8_newLength_cabcc_14 : decode cJ8_newLength_cabcc 14 = .ok (.ldc 200, 2) := by decide +kernel
theorem dJ8_newLength_cabcc_16 : decode cJ8_newLength_cabcc 16 = .ok (.if_icmp .gt 5, 3) := by decide +kernel
theorem dJ8_newLength_cabcc_19 : decode cJ8_newLength_cabcc 19 = .ok (.iload_n 3, 1) := by decide +kernel
theorem dJ8_newLength_cabcc_20 : decode cJ8_newLength_cabcc 20 = .ok (.ireturn, 1) := by decide +kernel
theorem dJ8_newLength_cabcc_21 : decode cJ8_newLength_cabcc 21 = .ok (.iload_n 0, 1) := by decide +kernel
theorem dJ8_newLength_cabcc_22 : decode cJ8_newLength_cabcc 22 = .ok (.iload_n 1, 1) := by decide +kernel
theorem dJ8_newLength_cabcc_23 : decode cJ8_newLength_cabcc 23 = .ok (.invokestatic 201, 3) := by decide +kernel
theorem dJ8_newLength_cabcc_26 : decode cJ8_newLength_cabcc 26 = .ok (.ireturn, 1) := by decide +kernel
theorem dJ8_hugeLength_7cf53_0 : decode cJ8_hugeLength_7cf53 0 = .ok (.iload_n 0, 1) := by decide +kernel
theorem dJ8_hugeLength_7cf53_1 : decode cJ8_hugeLength_7cf53 1 = .ok (.iload_n 1, 1) := by decide +kernel
theorem dJ8_hugeLength_7cf53_2 : decode cJ8_hugeLength_7cf53 2 = .ok (.iadd, 1) := by decide +kernel
theorem dJ8_hugeLength_7cf53_3 : decode cJ8_hugeLength_7cf53 3 = .ok (.istore_n 2, 1) := by decide +kernel
theorem dJ8_hugeLength_7cf53_4 : decode cJ8_hugeLength_7cf53 4 = .ok (.iload_n 2, 1) := by decide +kernel
theorem dJ8_hugeLength_7cf53_5 : decode cJ8_hugeLength_7cf53 5 = .ok (.ifCond .ge 44, 3) := by decide +kernel
theorem dJ8_hugeLength_7cf53_8 : decode cJ8_hugeLength_7cf53 8 = .ok (.new 204, 3) := by decide +kernel
theorem dJ8_hugeLength_7cf53_11 : decode cJ8_hugeLength_7cf53 11 = .ok (.dup, 1) := by decide +kernel
theorem dJ8_hugeLength_7cf53_12 : decode cJ8_hugeLength_7cf53 12 = .ok (.new 89, 3) := by decide +kernel
theorem dJ8_hugeLength_7cf53_15 : decode cJ8_hugeLength_7cf53 15 = .ok (.dup, 1) := by decide +kernel
theorem dJ8_hugeLength_7cf53_16 : decode cJ8_hugeLength_7cf53 16 = .ok (.invokespecial 91, 3) := by decide +kernel
theorem dJ8_hugeLength_7cf53_19 : decode cJ8_hugeLength_7cf53 19 = .ok (.ldc 206, 2) := by decide +kernel
theorem dJ8_hugeLength_7cf53_21 : decode cJ8_hugeLength_7cf53 21 = .ok (.invokevirtual 94, 3) := by decide +kernel
theorem dJ8_hugeLength_7cf53_24 : decode cJ8_hugeLength_7cf53 24 = .ok (.iload_n 0, 1) := by decide +kernel
theorem dJ8_hugeLength_7cf53_25 : decode cJ8_hugeLength_7cf53 25 = .ok (.invokevirtual 98, 3) := by decide +kernel
theorem dJ8_hugeLength_7cf53_28 : decode cJ8_hugeLength_7cf53 28 = .ok (.ldc 208, 2) := by decide +kernel
theorem dJ8_hugeLength_7cf53_30 : decode cJ8_hugeLength_7cf53 30 = .ok (.invokevirtual 94, 3) := by decide +kernel
theorem dJ8_hugeLength_7cf53_33 : decode cJ8_hugeLength_7cf53 33 = .ok (.iload_n 1, 1) := by decide +kernel
theorem dJ8_hugeLength_7cf53_34 : decode cJ8_hugeLength_7cf53 34 = .ok (.invokevirtual 98, 3) := by decide +kernel
theorem dJ8_hugeLength_7cf53_37 : decode cJ8_hugeLength_7cf53 37 = .ok (.ldc 210, 2) := by decide +kernel
theorem dJ8_hugeLength_7cf53_39 : decode cJ8_hugeLength_7cf53 39 = .ok (.invokevirtual 94, 3) := by decide +kernel
theorem dJ8_hugeLength_7cf53_42 : decode cJ8_hugeLength_7cf53 42 = .ok (.invokevirtual 101, 3) := by decide +kernel
theorem dJ8_hugeLength_7cf53_45 : decode cJ8_hugeLength_7cf53 45 = .ok (.invokespecial 212, 3) := by decide +kernel
theorem dJ8_hugeLength_7cf53_48 : decode cJ8_hugeLength_7cf53 48 = .ok (.athrow, 1) := by decide +kernel
theorem dJ8_hugeLength_7cf53_49 : decode cJ8_hugeLength_7cf53 49 = .ok (.iload_n 2, 1) := by decide +kernel
theorem dJ8_hugeLength_7cf53_50 : decode cJ8_hugeLength_7cf53 50 = .ok (.ldc 200, 2) := by decide +kernel
theorem dJ8_hugeLength_7cf53_52 : decode cJ8_hugeLength_7cf53 52 = .ok (.if_icmp .gt 6, 3) := by decide +kernel
theorem dJ8_hugeLength_7cf53_55 : decode cJ8_hugeLength_7cf53 55 = .ok (.ldc 200, 2) := by decide +kernel
theorem dJ8_hugeLength_7cf53_57 : decode cJ8_hugeLength_7cf53 57 = .ok (.ireturn, 1) := by decide +kernel
theorem dJ8_hugeLength_7cf53_58 : decode cJ8_hugeLength_7cf53 58 = .ok (.iload_n 2, 1) := by decide +kernel
theorem dJ8_hugeLength_7cf53_59 : decode cJ8_hugeLength_7cf53 59 = .ok (.ireturn, 1) := by decide +kernel
theorem dJ3_checkIndex_8e157_0 : decode cJ3_checkIndex_8e157 0 = .ok (.iload_n 0, 1) := by decide +kernel
theorem dJ3_checkIndex_8e157_1 : decode cJ3_checkIndex_8e157 1 = .ok (.ifCond .lt 8, 3) := by decide +kernel
theorem dJ3_checkIndex_8e157_4 : decode cJ3_checkIndex_8e157 4 = .ok (.iload_n 0, 1) := by decide +kernel
theorem dJ3_checkIndex_8e157_5 : decode cJ3_checkIndex_8e157 5 = .ok (.iload_n 1, 1) := by decide +kernel
theorem dJ3_checkIndex_8e157_6 : decode cJ3_checkIndex_8e157 6 = .ok (.if_icmp .lt 10, 3) := by decide +kernel
theorem dJ3_checkIndex_8e157_9 : decode cJ3_checkIndex_8e157 9 = .ok (.aload_n 2, 1) := by decide +kernel
theorem dJ3_checkIndex_8e157_10 : decode cJ3_checkIndex_8e157 10 = .ok (.iload_n 0, 1) := by decide +kernel
theorem dJ3_checkIndex_8e157_11 : decode cJ3_checkIndex_8e157 11 = .ok (.iload_n 1, 1) := by decide +kernel
theorem dJ3_checkIndex_8e157_12 : decode cJ3_checkIndex_8e157 12 = .ok (.invokestatic 95, 3) := by decide +kernel
theorem dJ3_checkIndex_8e157_15 : decode cJ3_checkIndex_8e157 15 = .ok (.athrow, 1) := by decide +kernel
theorem dJ3_checkIndex_8e157_16 : decode cJ3_checkIndex_8e157 16 = .ok (.iload_n 0, 1) := by decide +kernel
theorem dJ3_checkIndex_8e157_17 : decode cJ3_checkIndex_8e157 17 = .ok (.ireturn, 1) := by decide +kernel
theorem dL_below_0 : decode cL_below 0 = .ok (.iload_n 0, 1) := by decide +kernel
theorem dL_below_1 : decode cL_below 1 = .ok (.ldc 7, 2) := by decide +kernel
theorem dL_below_3 : decode cL_below 3 = .ok (.iand, 1) := by decide +kernel
theorem dL_below_4 : decode cL_below 4 = .ok (.iload_n 1, 1) := by decide +kernel
theorem dL_below_5 : decode cL_below 5 = .ok (.irem, 1) := by decide +kernel
theorem dL_below_6 : decode cL_below 6 = .ok (.ireturn, 1) := by decide +kernel
theorem dL_cell_0 : decode cL_cell 0 = .ok (.iload_n 1, 1) := by decide +kernel
theorem dL_cell_1 : decode cL_cell 1 = .ok (.aload_n 0, 1) := by decide +kernel
theorem dL_cell_2 : decode cL_cell 2 = .ok (.arraylength, 1) := by decide +kernel
theorem dL_cell_3 : decode cL_cell 3 = .ok (.if_icmp .ge 9, 3) := by decide +kernel
theorem dL_cell_6 : decode cL_cell 6 = .ok (.aload_n 0, 1) := by decide +kernel
theorem dL_cell_7 : decode cL_cell 7 = .ok (.iload_n 1, 1) := by decide +kernel
theorem dL_cell_8 : decode cL_cell 8 = .ok (.iaload, 1) := by decide +kernel
theorem dL_cell_9 : decode cL_cell 9 = .ok (.goto 9, 3) := by decide +kernel
theorem dL_cell_12 : decode cL_cell 12 = .ok (.ldc 8, 2) := by decide +kernel
theorem dL_cell_14 : decode cL_cell 14 = .ok (.iload_n 1, 1) := by decide +kernel
theorem dL_cell_15 : decode cL_cell 15 = .ok (.iconst 3, 1) := by decide +kernel
theorem dL_cell_16 : decode cL_cell 16 = .ok (.iadd, 1) := by decide +kernel
theorem dL_cell_17 : decode cL_cell 17 = .ok (.imul, 1) := by decide +kernel
theorem dL_cell_18 : decode cL_cell 18 = .ok (.ireturn, 1) := by decide +kernel
theorem dL_act_0 : decode cL_act 0 = .ok (.aload_n 1, 1) := by decide +kernel
theorem dL_act_1 : decode cL_act 1 = .ok (.getfield 9, 3) := by decide +kernel
theorem dL_act_4 : decode cL_act 4 = .ok (.arraylength, 1) := by decide +kernel
theorem dL_act_5 : decode cL_act 5 = .ok (.istore_n 3, 1) := by decide +kernel
theorem dL_act_6 : decode cL_act 6 = .ok (.iload_n 3, 1) := by decide +kernel
theorem dL_act_7 : decode cL_act 7 = .ok (.ifCond .ne 7, 3) := by decide +kernel
theorem dL_act_10 : decode cL_act 10 = .ok (.iconst 0, 1) := by decide +kernel
theorem dL_act_11 : decode cL_act 11 = .ok (.goto 10, 3) := by decide +kernel
theorem dL_act_14 : decode cL_act 14 = .ok (.iload_n 2, 1) := by decide +kernel
theorem dL_act_15 : decode cL_act 15 = .ok (.iconst 3, 1) := by decide +kernel
theorem dL_act_16 : decode cL_act 16 = .ok (.ishr, 1) := by decide +kernel
theorem dL_act_17 : decode cL_act 17 = .ok (.iload_n 3, 1) := by decide +kernel
theorem dL_act_18 : decode cL_act 18 = .ok (.invokestatic 15, 3) := by decide +kernel
theorem dL_act_21 : decode cL_act 21 = .ok (.istore 4, 2) := by decide +kernel
theorem dL_act_23 : decode cL_act 23 = .ok (.iload_n 2, 1) := by decide +kernel
theorem dL_act_24 : decode cL_act 24 = .ok (.bipush 12, 2) := by decide +kernel
theorem dL_act_26 : decode cL_act 26 = .ok (.invokestatic 15, 3) := by decide +kernel
theorem dL_act_29 : decode cL_act 29 = .ok (.tableswitch 621 0 9 #[55, 55, 55, 55, 248, 310, 310, 408, 446, 446], 55) := by decide +kernel
theorem dL_act_84 : decode cL_act 84 = .ok (.iload_n 3, 1) := by decide +kernel
theorem dL_act_85 : decode cL_act 85 = .ok (.bipush 10, 2) := by decide +kernel
theorem dL_act_87 : decode cL_act 87 = .ok (.if_icmp .ne 5, 3) := by decide +kernel
theorem dL_act_90 : decode cL_act 90 = .ok (.iconst 1, 1) := by decide +kernel
theorem dL_act_91 : decode cL_act 91 = .ok (.ireturn, 1) := by decide +kernel
theorem dL_act_92 : decode cL_act 92 = .ok (.iload_n 2, 1) := by decide +kernel
theorem dL_act_93 : decode cL_act 93 = .ok (.iconst 2, 1) := by decide +kernel
theorem dL_act_94 : decode cL_act 94 = .ok (.ishr, 1) := by decide +kernel
theorem dL_act_95 : decode cL_act 95 = .ok (.iconst 3, 1) := by decide +kernel
theorem dL_act_96 : decode cL_act 96 = .ok (.invokestatic 15, 3) := by decide +kernel
theorem dL_act_99 : decode cL_act 99 = .ok (.ifCond .ne 8, 3) := by decide +kernel
theorem dL_act_102 : decode cL_act 102 = .ok (.bipush 24, 2) := by decide +kernel
theorem dL_act_104 : decode cL_act 104 = .ok (.goto 5, 3) := by decide +kernel
theorem dL_act_107 : decode cL_act 107 = .ok (.bipush 9, 2) := by decide +kernel
theorem dL_act_109 : decode cL_act 109 = .ok (.istore 5, 2) := by decide +kernel
theorem dL_act_111 : decode cL_act 111 = .ok (.iconst 1, 1) := by decide +kernel
theorem dL_act_112 : decode cL_act 112 = .ok (.iload_n 2, 1) := by decide +kernel
theorem dL_act_113 : decode cL_act 113 = .ok (.iconst 4, 1) := by decide +kernel
theorem dL_act_114 : decode cL_act 114 = .ok (.ishr, 1) := by decide +kernel
theorem dL_act_115 : decode cL_act 115 = .ok (.iload 5, 2) := by decide +kernel
theorem dL_act_117 : decode cL_act 117 = .ok (.invokestatic 15, 3) := by decide +kernel
theorem dL_act_120 : decode cL_act 120 = .ok (.iadd, 1) := by decide +kernel
theorem dL_act_121 : decode cL_act 121 = .ok (.istore 6, 2) := by decide +kernel
theorem dL_act_123 : decode cL_act 123 = .ok (.iconst 1, 1) := by decide +kernel
theorem dL_act_124 : decode cL_act 124 = .ok (.iload_n 2, 1) := by decide +kernel
theorem dL_act_125 : decode cL_act 125 = .ok (.bipush 6, 2) := by decide +kernel
theorem dL_act_127 : decode cL_act 127 = .ok (.ishr, 1) := by decide +kernel
theorem dL_act_128 : decode cL_act 128 = .ok (.iload 5, 2) := by decide +kernel
theorem dL_act_130 : decode cL_act 130 = .ok (.invokestatic 15, 3) := by decide +kernel
theorem dL_act_133 : decode cL_act 133 = .ok (.iadd, 1) := by decide +kernel
theorem dL_act_134 : decode cL_act 134 = .ok (.istore 7, 2) := by decide +kernel
theorem dL_act_136 : decode cL_act 136 = .ok (.bipush 8, 2) := by decide +kernel
theorem dL_act_138 : decode cL_act 138 = .ok (.newarray .int, 2) := by decide +kernel
theorem dL_act_140 : decode cL_act 140 = .ok (.dup, 1) := by decide +kernel
theorem dL_act_141 : decode cL_act 141 = .ok (.iconst 0, 1) := by decide +kernel
theorem dL_act_142 : decode cL_act 142 = .ok (.iload_n 2, 1) := by decide +kernel
theorem dL_act_143 : decode cL_act 143 = .ok (.iconst 5, 1) := by decide +kernel
theorem dL_act_144 : decode cL_act 144 = .ok (.ishr, 1) := by decide +kernel
theorem dL_act_145 : decode cL_act 145 = .ok (.bipush 25, 2) := by decide +kernel
theorem dL_act_147 : decode cL_act 147 = .ok (.iload 6, 2) := by decide +kernel
theorem dL_act_149 : decode cL_act 149 = .ok (.isub, 1) := by decide +kernel
theorem dL_act_150 : decode cL_act 150 = .ok (.invokestatic 15, 3) := by decide +kernel
theorem dL_act_153 : decode cL_act 153 = .ok (.iastore, 1) := by decide +kernel
theorem dL_act_154 : decode cL_act 154 = .ok (.dup, 1) := by decide +kernel
theorem dL_act_155 : decode cL_act 155 = .ok (.iconst 1, 1) := by decide +kernel
theorem dL_act_156 : decode cL_act 156 = .ok (.iload_n 2, 1) := by decide +kernel
theorem dL_act_157 : decode cL_act 157 = .ok (.bipush 7, 2) := by decide +kernel
theorem dL_act_159 : decode cL_act 159 = .ok (.ishr, 1) := by decide +kernel
theorem dL_act_160 : decode cL_act 160 = .ok (.bipush 25, 2) := by decide +kernel
theorem dL_act_162 : decode cL_act 162 = .ok (.iload 7, 2) := by decide +kernel
theorem dL_act_164 : decode cL_act 164 = .ok (.isub, 1) := by decide +kernel
theorem dL_act_165 : decode cL_act 165 = .ok (.invokestatic 15, 3) := by decide +kernel
theorem dL_act_168 : decode cL_act 168 = .ok (.iastore, 1) := by decide +kernel
theorem dL_act_169 : decode cL_act 169 = .ok (.dup, 1) := by decide +kernel
theorem dL_act_170 : decode cL_act 170 = .ok (.iconst 2, 1) := by decide +kernel
theorem dL_act_171 : decode cL_act 171 = .ok (.iload 6, 2) := by decide +kernel
theorem dL_act_173 : decode cL_act 173 = .ok (.iastore, 1) := by decide +kernel
theorem dL_act_174 : decode cL_act 174 = .ok (.dup, 1) := by decide +kernel
theorem dL_act_175 : decode cL_act 175 = .ok (.iconst 3, 1) := by decide +kernel
theorem dL_act_176 : decode cL_act 176 = .ok (.iload 7, 2) := by decide +kernel
theorem dL_act_178 : decode cL_act 178 = .ok (.iastore, 1) := by decide +kernel
theorem dL_act_179 : decode cL_act 179 = .ok (.dup, 1) := by decide +kernel
theorem dL_act_180 : decode cL_act 180 = .ok (.iconst 4, 1) := by decide +kernel
theorem dL_act_181 : decode cL_act 181 = .ok (.iconst 1, 1) := by decide +kernel
theorem dL_act_182 : decode cL_act 182 = .ok (.iload_n 2, 1) := by decide +kernel
theorem dL_act_183 : decode cL_act 183 = .ok (.bipush 8, 2) := by decide +kernel
theorem dL_act_185 : decode cL_act 185 = .ok (.ishr, 1) := by decide +kernel
theorem dL_act_186 : decode cL_act 186 = .ok (.iload_n 2, 1) := by decide +kernel
theorem dL_act_187 : decode cL_act 187 = .ok (.iconst 3, 1) := by decide +kernel
theorem dL_act_188 : decode cL_act 188 = .ok (.ishr, 1) := by decide +kernel
theorem dL_act_189 : decode cL_act 189 = .ok (.iconst 2, 1) := by decide +kernel
theorem dL_act_190 : decode cL_act 190 = .ok (.invokestatic 15, 3) := by decide +kernel
theorem dL_act_193 : decode cL_act 193 = .ok (.ifCond .ne 8, 3) := by decide +kernel
theorem dL_act_196 : decode cL_act 196 = .ok (.bipush 9, 2) := by decide +kernel
theorem dL_act_198 : decode cL_act 198 = .ok (.goto 4, 3) := by decide +kernel
theorem dL_act_201 : decode cL_act 201 = .ok (.iconst 3, 1) := by decide +kernel
theorem dL_act_202 : decode cL_act 202 = .ok (.invokestatic 15, 3) := by decide +kernel
theorem dL_act_205 : decode cL_act 205 = .ok (.iadd, 1) := by decide +kernel
theorem dL_act_206 : decode cL_act 206 = .ok (.iastore, 1) := by decide +kernel
theorem dL_act_207 : decode cL_act 207 = .ok (.dup, 1) := by decide +kernel
theorem dL_act_208 : decode cL_act 208 = .ok (.iconst 5, 1) := by decide +kernel
theorem dL_act_209 : decode cL_act 209 = .ok (.iload_n 2, 1) := by decide +kernel
theorem dL_act_210 : decode cL_act 210 = .ok (.bipush 9, 2) := by decide +kernel
theorem dL_act_212 : decode cL_act 212 = .ok (.ishr, 1) := by decide +kernel
theorem dL_act_213 : decode cL_act 213 = .ok (.iconst 4, 1) := by decide +kernel
theorem dL_act_214 : decode cL_act 214 = .ok (.invokestatic 15, 3) := by decide +kernel
theorem dL_act_217 : decode cL_act 217 = .ok (.iastore, 1) := by decide +kernel
theorem dL_act_218 : decode cL_act 218 = .ok (.dup, 1) := by decide +kernel
theorem dL_act_219 : decode cL_act 219 = .ok (.bipush 6, 2) := by decide +kernel
theorem dL_act_221 : decode cL_act 221 = .ok (.iconst 1, 1) := by decide +kernel
theorem dL_act_222 : decode cL_act 222 = .ok (.iastore, 1) := by decide +kernel
theorem dL_act_223 : decode cL_act 223 = .ok (.dup, 1) := by decide +kernel
theorem dL_act_224 : decode cL_act 224 = .ok (.bipush 7, 2) := by decide +kernel
theorem dL_act_226 : decode cL_act 226 = .ok (.iconst 0, 1) := by decide +kernel
theorem dL_act_227 : decode cL_act 227 = .ok (.iastore, 1) := by decide +kernel
theorem dL_act_228 : decode cL_act 228 = .ok (.astore 8, 2) := by decide +kernel
theorem dL_act_230 : decode cL_act 230 = .ok (.aload_n 1, 1) := by decide +kernel
theorem dL_act_231 : decode cL_act 231 = .ok (.aload_n 1, 1) := by decide +kernel
theorem dL_act_232 : decode cL_act 232 = .ok (.getfield 9, 3) := by decide +kernel
theorem dL_act_235 : decode cL_act 235 = .ok (.aload 8, 2) := by decide +kernel
theorem dL_act_237 : decode cL_act 237 = .ok (.invokestatic 21, 3) := by decide +kernel
theorem dL_act_240 : decode cL_act 240 = .ok (.putfield 9, 3) := by decide +kernel
theorem dL_act_243 : decode cL_act 243 = .ok (.aload_n 0, 1) := by decide +kernel
theorem dL_act_244 : decode cL_act 244 = .ok (.aload 8, 2) := by decide +kernel
theorem dL_act_246 : decode cL_act 246 = .ok (.iconst 0, 1) := by decide +kernel
theorem dL_act_247 : decode cL_act 247 = .ok (.iaload, 1) := by decide +kernel
theorem dL_act_248 : decode cL_act 248 = .ok (.aload 8, 2) := by decide +kernel
theorem dL_act_250 : decode cL_act 250 = .ok (.iconst 1, 1) := by decide +kernel
theorem dL_act_251 : decode cL_act 251 = .ok (.iaload, 1) := by decide +kernel
theorem dL_act_252 : decode cL_act 252 = .ok (.iload 6, 2) := by decide +kernel
theorem dL_act_254 : decode cL_act 254 = .ok (.iload 7, 2) := by decide +kernel
theorem dL_act_256 : decode cL_act 256 = .ok (.aload 8, 2) := by decide +kernel
theorem dL_act_258 : decode cL_act 258 = .ok (.iconst 4, 1) := by decide +kernel
theorem dL_act_259 : decode cL_act 259 = .ok (.iaload, 1) := by decide +kernel
theorem dL_act_260 : decode cL_act 260 = .ok (.aload 8, 2) := by decide +kernel
theorem dL_act_262 : decode cL_act 262 = .ok (.iconst 5, 1) := by decide +kernel
theorem dL_act_263 : decode cL_act 263 = .ok (.iaload, 1) := by decide +kernel
theorem dL_act_264 : decode cL_act 264 = .ok (.invokevirtual 25, 3) := by decide +kernel
theorem dL_act_267 : decode cL_act 267 = .ok (.iload_n 3, 1) := by decide +kernel
theorem dL_act_268 : decode cL_act 268 = .ok (.if_icmp .ne 7, 3) := by decide +kernel
theorem dL_act_271 : decode cL_act 271 = .ok (.iconst 1, 1) := by decide +kernel
theorem dL_act_272 : decode cL_act 272 = .ok (.goto 4, 3) := by decide +kernel
theorem dL_act_275 : decode cL_act 275 = .ok (.iconst 0, 1) := by decide +kernel
theorem dL_act_276 : decode cL_act 276 = .ok (.ireturn, 1) := by decide +kernel
theorem dL_act_277 : decode cL_act 277 = .ok (.iload_n 3, 1) := by decide +kernel
theorem dL_act_278 : decode cL_act 278 = .ok (.ifCond .ne 5, 3) := by decide +kernel
theorem dL_act_281 : decode cL_act 281 = .ok (.iconst 1, 1) := by decide +kernel
theorem dL_act_282 : decode cL_act 282 = .ok (.ireturn, 1) := by decide +kernel
theorem dL_act_283 : decode cL_act 283 = .ok (.aload_n 1, 1) := by decide +kernel
theorem dL_act_284 : decode cL_act 284 = .ok (.getfield 9, 3) := by decide +kernel
theorem dL_act_287 : decode cL_act 287 = .ok (.iload 4, 2) := by decide +kernel
theorem dL_act_289 : decode cL_act 289 = .ok (.aaload, 1) := by decide +kernel
theorem dL_act_290 : decode cL_act 290 = .ok (.bipush 6, 2) := by decide +kernel
theorem dL_act_292 : decode cL_act 292 = .ok (.iconst 1, 1) := by decide +kernel
theorem dL_act_293 : decode cL_act 293 = .ok (.aload_n 1, 1) := by decide +kernel
theorem dL_act_294 : decode cL_act 294 = .ok (.getfield 9, 3) := by decide +kernel
theorem dL_act_297 : decode cL_act 297 = .ok (.iload 4, 2) := by decide +kernel
theorem dL_act_299 : decode cL_act 299 = .ok (.aaload, 1) := by decide +kernel
theorem dL_act_300 : decode cL_act 300 = .ok (.bipush 6, 2) := by decide +kernel
theorem dL_act_302 : decode cL_act 302 = .ok (.iaload, 1) := by decide +kernel
theorem dL_act_303 : decode cL_act 303 = .ok (.isub, 1) := by decide +kernel
theorem dL_act_304 : decode cL_act 304 = .ok (.iastore, 1) := by decide +kernel
theorem dL_act_305 : decode cL_act 305 = .ok (.aload_n 0, 1) := by decide +kernel
theorem dL_act_306 : decode cL_act 306 = .ok (.iload 4, 2) := by decide +kernel
theorem dL_act_308 : decode cL_act 308 = .ok (.invokevirtual 31, 3) := by decide +kernel
theorem dL_act_311 : decode cL_act 311 = .ok (.aload_n 1, 1) := by decide +kernel
theorem dL_act_312 : decode cL_act 312 = .ok (.getfield 9, 3) := by decide +kernel
theorem dL_act_315 : decode cL_act 315 = .ok (.iload 4, 2) := by decide +kernel
theorem dL_act_317 : decode cL_act 317 = .ok (.aaload, 1) := by decide +kernel
theorem dL_act_318 : decode cL_act 318 = .ok (.bipush 6, 2) := by decide +kernel
theorem dL_act_320 : decode cL_act 320 = .ok (.iaload, 1) := by decide +kernel
theorem dL_act_321 : decode cL_act 321 = .ok (.iconst 1, 1) := by decide +kernel
theorem dL_act_322 : decode cL_act 322 = .ok (.if_icmp .ne 7, 3) := by decide +kernel
theorem dL_act_325 : decode cL_act 325 = .ok (.iconst 1, 1) := by decide +kernel
theorem dL_act_326 : decode cL_act 326 = .ok (.goto 4, 3) := by decide +kernel
theorem dL_act_329 : decode cL_act 329 = .ok (.iconst 0, 1) := by decide +kernel
theorem dL_act_330 : decode cL_act 330 = .ok (.if_icmp .ne 7, 3) := by decide +kernel
theorem dL_act_333 : decode cL_act 333 = .ok (.iconst 1, 1) := by decide +kernel
theorem dL_act_334 : decode cL_act 334 = .ok (.goto 4, 3) := by decide +kernel
theorem dL_act_337 : decode cL_act 337 = .ok (.iconst 0, 1) := by decide +kernel
theorem dL_act_338 : decode cL_act 338 = .ok (.ireturn, 1) := by decide +kernel
theorem dL_act_339 : decode cL_act 339 = .ok (.iload_n 3, 1) := by decide +kernel
theorem dL_act_340 : decode cL_act 340 = .ok (.ifCond .ne 5, 3) := by decide +kernel
theorem dL_act_343 : decode cL_act 343 = .ok (.iconst 1, 1) := by decide +kernel
theorem dL_act_344 : decode cL_act 344 = .ok (.ireturn, 1) := by decide +kernel
theorem dL_act_345 : decode cL_act 345 = .ok (.aload_n 1, 1) := by decide +kernel
theorem dL_act_346 : decode cL_act 346 = .ok (.getfield 9, 3) := by decide +kernel
theorem dL_act_349 : decode cL_act 349 = .ok (.iload 4, 2) := by decide +kernel
theorem dL_act_351 : decode cL_act 351 = .ok (.aaload, 1) := by decide +kernel
theorem dL_act_352 : decode cL_act 352 = .ok (.iconst 0, 1) := by decide +kernel
theorem dL_act_353 : decode cL_act 353 = .ok (.iload_n 2, 1) := by decide +kernel
theorem dL_act_354 : decode cL_act 354 = .ok (.iconst 5, 1) := by decide +kernel
theorem dL_act_355 : decode cL_act 355 = .ok (.ishr, 1) := by decide +kernel
theorem dL_act_356 : decode cL_act 356 = .ok (.bipush 25, 2) := by decide +kernel
theorem dL_act_358 : decode cL_act 358 = .ok (.aload_n 1, 1) := by decide +kernel
theorem dL_act_359 : decode cL_act 359 = .ok (.getfield 9, 3) := by decide +kernel
theorem dL_act_362 : decode cL_act 362 = .ok (.iload 4, 2) := by decide +kernel
theorem dL_act_364 : decode cL_act 364 = .ok (.aaload, 1) := by decide +kernel
theorem dL_act_365 : decode cL_act 365 = .ok (.iconst 2, 1) := by decide +kernel
theorem dL_act_366 : decode cL_act 366 = .ok (.iaload, 1) := by decide +kernel
theorem dL_act_367 : decode cL_act 367 = .ok (.isub, 1) := by decide +kernel
theorem dL_act_368 : decode cL_act 368 = .ok (.invokestatic 15, 3) := by decide +kernel
theorem dL_act_371 : decode cL_act 371 = .ok (.iastore, 1) := by decide +kernel
theorem dL_act_372 : decode cL_act 372 = .ok (.aload_n 1, 1) := by decide +kernel
theorem dL_act_373 : decode cL_act 373 = .ok (.getfield 9, 3) := by decide +kernel
theorem dL_act_376 : decode cL_act 376 = .ok (.iload 4, 2) := by decide +kernel
theorem dL_act_378 : decode cL_act 378 = .ok (.aaload, 1) := by decide +kernel
theorem dL_act_379 : decode cL_act 379 = .ok (.iconst 1, 1) := by decide +kernel
theorem dL_act_380 : decode cL_act 380 = .ok (.iload_n 2, 1) := by decide +kernel
theorem dL_act_381 : decode cL_act 381 = .ok (.bipush 7, 2) := by decide +kernel
theorem dL_act_383 : decode cL_act 383 = .ok (.ishr, 1) := by decide +kernel
theorem dL_act_384 : decode cL_act 384 = .ok (.bipush 25, 2) := by decide +kernel
theorem dL_act_386 : decode cL_act 386 = .ok (.aload_n 1, 1) := by decide +kernel
theorem dL_act_387 : decode cL_act 387 = .ok (.getfield 9, 3) := by decide +kernel
theorem dL_act_390 : decode cL_act 390 = .ok (.iload 4, 2) := by decide +kernel
theorem dL_act_392 : decode cL_act 392 = .ok (.aaload, 1) := by decide +kernel
theorem dL_act_393 : decode cL_act 393 = .ok (.iconst 3, 1) := by decide +kernel
theorem dL_act_394 : decode cL_act 394 = .ok (.iaload, 1) := by decide +kernel
theorem dL_act_395 : decode cL_act 395 = .ok (.isub, 1) := by decide +kernel
theorem dL_act_396 : decode cL_act 396 = .ok (.invokestatic 15, 3) := by decide +kernel
theorem dL_act_399 : decode cL_act 399 = .ok (.iastore, 1) := by decide +kernel
theorem dL_act_400 : decode cL_act 400 = .ok (.aload_n 0, 1) := by decide +kernel
theorem dL_act_401 : decode cL_act 401 = .ok (.iload 4, 2) := by decide +kernel
theorem dL_act_403 : decode cL_act 403 = .ok (.aload_n 1, 1) := by decide +kernel
theorem dL_act_404 : decode cL_act 404 = .ok (.getfield 9, 3) := by decide +kernel
theorem dL_act_407 : decode cL_act 407 = .ok (.iload 4, 2) := by decide +kernel
theorem dL_act_409 : decode cL_act 409 = .ok (.aaload, 1) := by decide +kernel
theorem dL_act_410 : decode cL_act 410 = .ok (.iconst 0, 1) := by decide +kernel
theorem dL_act_411 : decode cL_act 411 = .ok (.iaload, 1) := by decide +kernel
theorem dL_act_412 : decode cL_act 412 = .ok (.aload_n 1, 1) := by decide +kernel
theorem dL_act_413 : decode cL_act 413 = .ok (.getfield 9, 3) := by decide +kernel
theorem dL_act_416 : decode cL_act 416 = .ok (.iload 4, 2) := by decide +kernel
theorem dL_act_418 : decode cL_act 418 = .ok (.aaload, 1) := by decide +kernel
theorem dL_act_419 : decode cL_act 419 = .ok (.iconst 1, 1) := by decide +kernel
theorem dL_act_420 : decode cL_act 420 = .ok (.iaload, 1) := by decide +kernel
theorem dL_act_421 : decode cL_act 421 = .ok (.invokevirtual 35, 3) := by decide +kernel
theorem dL_act_424 : decode cL_act 424 = .ok (.aload_n 1, 1) := by decide +kernel
theorem dL_act_425 : decode cL_act 425 = .ok (.invokevirtual 39, 3) := by decide +kernel
theorem dL_act_428 : decode cL_act 428 = .ok (.if_icmp .ne 7, 3) := by decide +kernel
theorem dL_act_431 : decode cL_act 431 = .ok (.iconst 1, 1) := by decide +kernel
theorem dL_act_432 : decode cL_act 432 = .ok (.goto 4, 3) := by decide +kernel
theorem dL_act_435 : decode cL_act 435 = .ok (.iconst 0, 1) := by decide +kernel
theorem dL_act_436 : decode cL_act 436 = .ok (.ireturn, 1) := by decide +kernel
theorem dL_act_437 : decode cL_act 437 = .ok (.iload_n 3, 1) := by decide +kernel
theorem dL_act_438 : decode cL_act 438 = .ok (.iconst 3, 1) := by decide +kernel
theorem dL_act_439 : decode cL_act 439 = .ok (.if_icmp .ge 5, 3) := by decide +kernel
theorem dL_act_442 : decode cL_act 442 = .ok (.iconst 1, 1) := by decide +kernel
theorem dL_act_443 : decode cL_act 443 = .ok (.ireturn, 1) := by decide +kernel
theorem dL_act_444 : decode cL_act 444 = .ok (.aload_n 1, 1) := by decide +kernel
theorem dL_act_445 : decode cL_act 445 = .ok (.aload_n 1, 1) := by decide +kernel
theorem dL_act_446 : decode cL_act 446 = .ok (.getfield 9, 3) := by decide +kernel
theorem dL_act_449 : decode cL_act 449 = .ok (.iload 4, 2) := by decide +kernel
theorem dL_act_451 : decode cL_act 451 = .ok (.invokestatic 43, 3) := by decide +kernel
theorem dL_act_454 : decode cL_act 454 = .ok (.putfield 9, 3) := by decide +kernel
theorem dL_act_457 : decode cL_act 457 = .ok (.aload_n 0, 1) := by decide +kernel
theorem dL_act_458 : decode cL_act 458 = .ok (.iload 4, 2) := by decide +kernel
theorem dL_act_460 : decode cL_act 460 = .ok (.invokevirtual 47, 3) := by decide +kernel
theorem dL_act_463 : decode cL_act 463 = .ok (.iload_n 3, 1) := by decide +kernel
theorem dL_act_464 : decode cL_act 464 = .ok (.iconst 1, 1) := by decide +kernel
theorem dL_act_465 : decode cL_act 465 = .ok (.isub, 1) := by decide +kernel
theorem dL_act_466 : decode cL_act 466 = .ok (.if_icmp .ne 7, 3) := by decide +kernel
theorem dL_act_469 : decode cL_act 469 = .ok (.iconst 1, 1) := by decide +kernel
theorem dL_act_470 : decode cL_act 470 = .ok (.goto 4, 3) := by decide +kernel
theorem dL_act_473 : decode cL_act 473 = .ok (.iconst 0, 1) := by decide +kernel
theorem dL_act_474 : decode cL_act 474 = .ok (.ireturn, 1) := by decide +kernel
theorem dL_act_475 : decode cL_act 475 = .ok (.iload_n 2, 1) := by decide +kernel
theorem dL_act_476 : decode cL_act 476 = .ok (.iconst 4, 1) := by decide +kernel
theorem dL_act_477 : decode cL_act 477 = .ok (.ishr, 1) := by decide +kernel
theorem dL_act_478 : decode cL_act 478 = .ok (.bipush 24, 2) := by decide +kernel
theorem dL_act_480 : decode cL_act 480 = .ok (.invokestatic 15, 3) := by decide +kernel
theorem dL_act_483 : decode cL_act 483 = .ok (.istore 5, 2) := by decide +kernel
theorem dL_act_485 : decode cL_act 485 = .ok (.iload_n 2, 1) := by decide +kernel
theorem dL_act_486 : decode cL_act 486 = .ok (.bipush 6, 2) := by decide +kernel
theorem dL_act_488 : decode cL_act 488 = .ok (.ishr, 1) := by decide +kernel
theorem dL_act_489 : decode cL_act 489 = .ok (.bipush 24, 2) := by decide +kernel
theorem dL_act_491 : decode cL_act 491 = .ok (.invokestatic 15, 3) := by decide +kernel
theorem dL_act_494 : decode cL_act 494 = .ok (.istore 6, 2) := by decide +kernel
theorem dL_act_496 : decode cL_act 496 = .ok (.aload_n 1, 1) := by decide +kernel
theorem dL_act_497 : decode cL_act 497 = .ok (.getfield 51, 3) := by decide +kernel
theorem dL_act_500 : decode cL_act 500 = .ok (.arraylength, 1) := by decide +kernel
theorem dL_act_501 : decode cL_act 501 = .ok (.bipush 8, 2) := by decide +kernel
theorem dL_act_503 : decode cL_act 503 = .ok (.if_icmp .ge 7, 3) := by decide +kernel
theorem dL_act_506 : decode cL_act 506 = .ok (.iconst 1, 1) := by decide +kernel
theorem dL_act_507 : decode cL_act 507 = .ok (.goto 4, 3) := by decide +kernel
theorem dL_act_510 : decode cL_act 510 = .ok (.iconst 0, 1) := by decide +kernel
theorem dL_act_511 : decode cL_act 511 = .ok (.istore 7, 2) := by decide +kernel
theorem dL_act_513 : decode cL_act 513 = .ok (.aload_n 1, 1) := by decide +kernel
theorem dL_act_514 : decode cL_act 514 = .ok (.getfield 51, 3) := by decide +kernel
theorem dL_act_517 : decode cL_act 517 = .ok (.astore 8, 2) := by decide +kernel
theorem dL_act_519 : decode cL_act 519 = .ok (.aload 8, 2) := by decide +kernel
theorem dL_act_521 : decode cL_act 521 = .ok (.arraylength, 1) := by decide +kernel
theorem dL_act_522 : decode cL_act 522 = .ok (.istore 9, 2) := by decide +kernel
theorem dL_act_524 : decode cL_act 524 = .ok (.iconst 0, 1) := by decide +kernel
theorem dL_act_525 : decode cL_act 525 = .ok (.istore 10, 2) := by decide +kernel
theorem dL_act_527 : decode cL_act 527 = .ok (.iload 10, 2) := by decide +kernel
theorem dL_act_529 : decode cL_act 529 = .ok (.iload 9, 2) := by decide +kernel
theorem dL_act_531 : decode cL_act 531 = .ok (.if_icmp .ge 44, 3) := by decide +kernel
theorem dL_act_534 : decode cL_act 534 = .ok (.aload 8, 2) := by decide +kernel
theorem dL_act_536 : decode cL_act 536 = .ok (.iload 10, 2) := by decide +kernel
theorem dL_act_538 : decode cL_act 538 = .ok (.aaload, 1) := by decide +kernel
theorem dL_act_539 : decode cL_act 539 = .ok (.astore 11, 2) := by decide +kernel
theorem dL_act_541 : decode cL_act 541 = .ok (.iload 7, 2) := by decide +kernel
theorem dL_act_543 : decode cL_act 543 = .ok (.aload 11, 2) := by decide +kernel
theorem dL_act_545 : decode cL_act 545 = .ok (.iconst 0, 1) := by decide +kernel
theorem dL_act_546 : decode cL_act 546 = .ok (.iaload, 1) := by decide +kernel
theorem dL_act_547 : decode cL_act 547 = .ok (.iload 5, 2) := by decide +kernel
theorem dL_act_549 : decode cL_act 549 = .ok (.if_icmp .ne 12, 3) := by decide +kernel
theorem dL_act_552 : decode cL_act 552 = .ok (.aload 11, 2) := by decide +kernel
theorem dL_act_554 : decode cL_act 554 = .ok (.iconst 1, 1) := by decide +kernel
theorem dL_act_555 : decode cL_act 555 = .ok (.iaload, 1) := by decide +kernel
theorem dL_act_556 : decode cL_act 556 = .ok (.iload 6, 2) := by decide +kernel
theorem dL_act_558 : decode cL_act 558 = .ok (.if_icmp .eq 7, 3) := by decide +kernel
theorem dL_act_561 : decode cL_act 561 = .ok (.iconst 1, 1) := by decide +kernel
theorem dL_act_562 : decode cL_act 562 = .ok (.goto 4, 3) := by decide +kernel
theorem dL_act_565 : decode cL_act 565 = .ok (.iconst 0, 1) := by decide +kernel
theorem dL_act_566 : decode cL_act 566 = .ok (.iand, 1) := by decide +kernel
theorem dL_act_567 : decode cL_act 567 = .ok (.istore 7, 2) := by decide +kernel
theorem dL_act_569 : decode cL_act 569 = .ok (.iinc 10 1, 3) := by decide +kernel
theorem dL_act_572 : decode cL_act 572 = .ok (.goto (-45), 3) := by decide +kernel
theorem dL_act_575 : decode cL_act 575 = .ok (.iload 7, 2) := by decide +kernel
theorem dL_act_577 : decode cL_act 577 = .ok (.ifCond .eq 31, 3) := by decide +kernel
theorem dL_act_580 : decode cL_act 580 = .ok (.aload_n 1, 1) := by decide +kernel
theorem dL_act_581 : decode cL_act 581 = .ok (.aload_n 1, 1) := by decide +kernel
theorem dL_act_582 : decode cL_act 582 = .ok (.getfield 51, 3) := by decide +kernel
theorem dL_act_585 : decode cL_act 585 = .ok (.iconst 3, 1) := by decide +kernel
theorem dL_act_586 : decode cL_act 586 = .ok (.newarray .int, 2) := by decide +kernel
theorem dL_act_588 : decode cL_act 588 = .ok (.dup, 1) := by decide +kernel
theorem dL_act_589 : decode cL_act 589 = .ok (.iconst 0, 1) := by decide +kernel
theorem dL_act_590 : decode cL_act 590 = .ok (.iload 5, 2) := by decide +kernel
theorem dL_act_592 : decode cL_act 592 = .ok (.iastore, 1) := by decide +kernel
theorem dL_act_593 : decode cL_act 593 = .ok (.dup, 1) := by decide +kernel
theorem dL_act_594 : decode cL_act 594 = .ok (.iconst 1, 1) := by decide +kernel
theorem dL_act_595 : decode cL_act 595 = .ok (.iload 6, 2) := by decide +kernel
theorem dL_act_597 : decode cL_act 597 = .ok (.iastore, 1) := by decide +kernel
theorem dL_act_598 : decode cL_act 598 = .ok (.dup, 1) := by decide +kernel
theorem dL_act_599 : decode cL_act 599 = .ok (.iconst 2, 1) := by decide +kernel
theorem dL_act_600 : decode cL_act 600 = .ok (.iconst 0, 1) := by decide +kernel
theorem dL_act_601 : decode cL_act 601 = .ok (.iastore, 1) := by decide +kernel
theorem dL_act_602 : decode cL_act 602 = .ok (.invokestatic 21, 3) := by decide +kernel
theorem dL_act_605 : decode cL_act 605 = .ok (.putfield 51, 3) := by decide +kernel
theorem dL_act_608 : decode cL_act 608 = .ok (.aload_n 0, 1) := by decide +kernel
theorem dL_act_609 : decode cL_act 609 = .ok (.iload 5, 2) := by decide +kernel
theorem dL_act_611 : decode cL_act 611 = .ok (.iload 6, 2) := by decide +kernel
theorem dL_act_613 : decode cL_act 613 = .ok (.invokevirtual 54, 3) := by decide +kernel
theorem dL_act_616 : decode cL_act 616 = .ok (.aload_n 1, 1) := by decide +kernel
theorem dL_act_617 : decode cL_act 617 = .ok (.getfield 51, 3) := by decide +kernel
theorem dL_act_620 : decode cL_act 620 = .ok (.arraylength, 1) := by decide +kernel
theorem dL_act_621 : decode cL_act 621 = .ok (.iconst 1, 1) := by decide +kernel
theorem dL_act_622 : decode cL_act 622 = .ok (.isub, 1) := by decide +kernel
theorem dL_act_623 : decode cL_act 623 = .ok (.if_icmp .ne 12, 3) := by decide +kernel
theorem dL_act_626 : decode cL_act 626 = .ok (.iload 7, 2) := by decide +kernel
theorem dL_act_628 : decode cL_act 628 = .ok (.ifCond .eq 7, 3) := by decide +kernel
theorem dL_act_631 : decode cL_act 631 = .ok (.iconst 1, 1) := by decide +kernel
theorem dL_act_632 : decode cL_act 632 = .ok (.goto 4, 3) := by decide +kernel
theorem dL_act_635 : decode cL_act 635 = .ok (.iconst 0, 1) := by decide +kernel
theorem dL_act_636 : decode cL_act 636 = .ok (.ireturn, 1) := by decide +kernel
theorem dL_act_637 : decode cL_act 637 = .ok (.astore 8, 2) := by decide +kernel
theorem dL_act_639 : decode cL_act 639 = .ok (.iload 7, 2) := by decide +kernel
theorem dL_act_641 : decode cL_act 641 = .ok (.ifCond .ne 7, 3) := by decide +kernel
theorem dL_act_644 : decode cL_act 644 = .ok (.iconst 1, 1) := by decide +kernel
theorem dL_act_645 : decode cL_act 645 = .ok (.goto 4, 3) := by decide +kernel
theorem dL_act_648 : decode cL_act 648 = .ok (.iconst 0, 1) := by decide +kernel
theorem dL_act_649 : decode cL_act 649 = .ok (.ireturn, 1) := by decide +kernel
theorem dL_act_650 : decode cL_act 650 = .ok (.iconst 1, 1) := by decide +kernel
theorem dL_act_651 : decode cL_act 651 = .ok (.iload_n 2, 1) := by decide +kernel
theorem dL_act_652 : decode cL_act 652 = .ok (.iconst 4, 1) := by decide +kernel
theorem dL_act_653 : decode cL_act 653 = .ok (.ishr, 1) := by decide +kernel
theorem dL_act_654 : decode cL_act 654 = .ok (.bipush 20, 2) := by decide +kernel
theorem dL_act_656 : decode cL_act 656 = .ok (.invokestatic 15, 3) := by decide +kernel
theorem dL_act_659 : decode cL_act 659 = .ok (.iadd, 1) := by decide +kernel
theorem dL_act_660 : decode cL_act 660 = .ok (.istore 5, 2) := by decide +kernel
theorem dL_act_662 : decode cL_act 662 = .ok (.aload_n 0, 1) := by decide +kernel
theorem dL_act_663 : decode cL_act 663 = .ok (.iload 5, 2) := by decide +kernel
theorem dL_act_665 : decode cL_act 665 = .ok (.invokevirtual 59, 3) := by decide +kernel
theorem dL_act_668 : decode cL_act 668 = .ok (.aload_n 1, 1) := by decide +kernel
theorem dL_act_669 : decode cL_act 669 = .ok (.iload 5, 2) := by decide +kernel
theorem dL_act_671 : decode cL_act 671 = .ok (.invokevirtual 62, 3) := by decide +kernel
theorem dL_act_674 : decode cL_act 674 = .ok (.if_icmp .ne 7, 3) := by decide +kernel
theorem dL_act_677 : decode cL_act 677 = .ok (.iconst 1, 1) := by decide +kernel
theorem dL_act_678 : decode cL_act 678 = .ok (.goto 4, 3) := by decide +kernel
theorem dL_act_681 : decode cL_act 681 = .ok (.iconst 0, 1) := by decide +kernel
theorem dL_act_682 : decode cL_act 682 = .ok (.ireturn, 1) := by decide +kernel
theorem dL_build_0 : decode cL_build 0 = .ok (.new 10, 3) := by decide +kernel
theorem dL_build_3 : decode cL_build 3 = .ok (.dup, 1) := by decide +kernel
theorem dL_build_4 : decode cL_build 4 = .ok (.invokespecial 63, 3) := by decide +kernel
theorem dL_build_7 : decode cL_build 7 = .ok (.astore_n 2, 1) := by decide +kernel
theorem dL_build_8 : decode cL_build 8 = .ok (.iconst 0, 1) := by decide +kernel
theorem dL_build_9 : decode cL_build 9 = .ok (.istore_n 3, 1) := by decide +kernel
theorem dL_build_10 : decode cL_build 10 = .ok (.iload_n 3, 1) := by decide +kernel
theorem dL_build_11 : decode cL_build 11 = .ok (.bipush 12, 2) := by decide +kernel
theorem dL_build_13 : decode cL_build 13 = .ok (.if_icmp .ge 49, 3) := by decide +kernel
theorem dL_build_16 : decode cL_build 16 = .ok (.aload_n 0, 1) := by decide +kernel
theorem dL_build_17 : decode cL_build 17 = .ok (.aload_n 2, 1) := by decide +kernel
theorem dL_build_18 : decode cL_build 18 = .ok (.iload_n 3, 1) := by decide +kernel
theorem dL_build_19 : decode cL_build 19 = .ok (.iconst 4, 1) := by decide +kernel
theorem dL_build_20 : decode cL_build 20 = .ok (.if_icmp .ge 18, 3) := by decide +kernel
theorem dL_build_23 : decode cL_build 23 = .ok (.bipush 12, 2) := by decide +kernel
theorem dL_build_25 : decode cL_build 25 = .ok (.aload_n 1, 1) := by decide +kernel
theorem dL_build_26 : decode cL_build 26 = .ok (.iload_n 3, 1) := by decide +kernel
theorem dL_build_27 : decode cL_build 27 = .ok (.invokestatic 64, 3) := by decide +kernel
theorem dL_build_30 : decode cL_build 30 = .ok (.iconst 5, 1) := by decide +kernel
theorem dL_build_31 : decode cL_build 31 = .ok (.ishr, 1) := by decide +kernel
theorem dL_build_32 : decode cL_build 32 = .ok (.imul, 1) := by decide +kernel
theorem dL_build_33 : decode cL_build 33 = .ok (.iload_n 3, 1) := by decide +kernel
theorem dL_build_34 : decode cL_build 34 = .ok (.iadd, 1) := by decide +kernel
theorem dL_build_35 : decode cL_build 35 = .ok (.goto 13, 3) := by decide +kernel
theorem dL_build_38 : decode cL_build 38 = .ok (.aload_n 1, 1) := by decide +kernel
theorem dL_build_39 : decode cL_build 39 = .ok (.iload_n 3, 1) := by decide +kernel
theorem dL_build_40 : decode cL_build 40 = .ok (.invokestatic 64, 3) := by decide +kernel
theorem dL_build_43 : decode cL_build 43 = .ok (.bipush 71, 2) := by decide +kernel
theorem dL_build_45 : decode cL_build 45 = .ok (.iload_n 3, 1) := by decide +kernel
theorem dL_build_46 : decode cL_build 46 = .ok (.imul, 1) := by decide +kernel
theorem dL_build_47 : decode cL_build 47 = .ok (.iadd, 1) := by decide +kernel
theorem dL_build_48 : decode cL_build 48 = .ok (.invokestatic 68, 3) := by decide +kernel
theorem dL_build_51 : decode cL_build 51 = .ok (.ifCond .ne 5, 3) := by decide +kernel
theorem dL_build_54 : decode cL_build 54 = .ok (.aconst_null, 1) := by decide +kernel
theorem dL_build_55 : decode cL_build 55 = .ok (.areturn, 1) := by decide +kernel
theorem dL_build_56 : decode cL_build 56 = .ok (.iinc 3 1, 3) := by decide +kernel
theorem dL_build_59 : decode cL_build 59 = .ok (.goto (-49), 3) := by decide +kernel
theorem dL_build_62 : decode cL_build 62 = .ok (.aload_n 2, 1) := by decide +kernel
theorem dL_build_63 : decode cL_build 63 = .ok (.areturn, 1) := by decide +kernel
theorem dL_law_0 : decode cL_law 0 = .ok (.new 26, 3) := by decide +kernel
theorem dL_law_3 : decode cL_law 3 = .ok (.dup, 1) := by decide +kernel
theorem dL_law_4 : decode cL_law 4 = .ok (.invokespecial 72, 3) := by decide +kernel
theorem dL_law_7 : decode cL_law 7 = .ok (.astore_n 1, 1) := by decide +kernel
theorem dL_law_8 : decode cL_law 8 = .ok (.aload_n 1, 1) := by decide +kernel
theorem dL_law_9 : decode cL_law 9 = .ok (.aload_n 0, 1) := by decide +kernel
theorem dL_law_10 : decode cL_law 10 = .ok (.invokestatic 73, 3) := by decide +kernel
theorem dL_law_13 : decode cL_law 13 = .ok (.astore_n 2, 1) := by decide +kernel
theorem dL_law_14 : decode cL_law 14 = .ok (.aload_n 2, 1) := by decide +kernel
theorem dL_law_15 : decode cL_law 15 = .ok (.ifnonnull 5, 3) := by decide +kernel
theorem dL_law_18 : decode cL_law 18 = .ok (.iconst 0, 1) := by decide +kernel
theorem dL_law_19 : decode cL_law 19 = .ok (.ireturn, 1) := by decide +kernel
theorem dL_law_20 : decode cL_law 20 = .ok (.aload_n 1, 1) := by decide +kernel
theorem dL_law_21 : decode cL_law 21 = .ok (.bipush 8, 2) := by decide +kernel
theorem dL_law_23 : decode cL_law 23 = .ok (.invokevirtual 77, 3) := by decide +kernel
theorem dL_law_26 : decode cL_law 26 = .ok (.aload_n 1, 1) := by decide +kernel
theorem dL_law_27 : decode cL_law 27 = .ok (.bipush 9, 2) := by decide +kernel
theorem dL_law_29 : decode cL_law 29 = .ok (.invokevirtual 77, 3) := by decide +kernel
theorem dL_law_32 : decode cL_law 32 = .ok (.iadd, 1) := by decide +kernel
theorem dL_law_33 : decode cL_law 33 = .ok (.istore_n 3, 1) := by decide +kernel
theorem dL_law_34 : decode cL_law 34 = .ok (.iload_n 3, 1) := by decide +kernel
theorem dL_law_35 : decode cL_law 35 = .ok (.sipush 576, 3) := by decide +kernel
theorem dL_law_38 : decode cL_law 38 = .ok (.irem, 1) := by decide +kernel
theorem dL_law_39 : decode cL_law 39 = .ok (.ifCond .eq 5, 3) := by decide +kernel
theorem dL_law_42 : decode cL_law 42 = .ok (.iconst 0, 1) := by decide +kernel
theorem dL_law_43 : decode cL_law 43 = .ok (.ireturn, 1) := by decide +kernel
theorem dL_law_44 : decode cL_law 44 = .ok (.iconst 0, 1) := by decide +kernel
theorem dL_law_45 : decode cL_law 45 = .ok (.istore 4, 2) := by decide +kernel
theorem dL_law_47 : decode cL_law 47 = .ok (.iload 4, 2) := by decide +kernel
theorem dL_law_49 : decode cL_law 49 = .ok (.bipush 8, 2) := by decide +kernel
theorem dL_law_51 : decode cL_law 51 = .ok (.if_icmp .ge 1004, 3) := by decide +kernel
theorem dL_law_54 : decode cL_law 54 = .ok (.aload_n 0, 1) := by decide +kernel
theorem dL_law_55 : decode cL_law 55 = .ok (.iload 4, 2) := by decide +kernel
theorem dL_law_57 : decode cL_law 57 = .ok (.iconst 3, 1) := by decide +kernel
theorem dL_law_58 : decode cL_law 58 = .ok (.iadd, 1) := by decide +kernel
theorem dL_law_59 : decode cL_law 59 = .ok (.invokestatic 64, 3) := by decide +kernel
theorem dL_law_62 : decode cL_law 62 = .ok (.iconst 1, 1) := by decide +kernel
theorem dL_law_63 : decode cL_law 63 = .ok (.ishr, 1) := by decide +kernel
theorem dL_law_64 : decode cL_law 64 = .ok (.bipush 47, 2) := by decide +kernel
theorem dL_law_66 : decode cL_law 66 = .ok (.iload 4, 2) := by decide +kernel
theorem dL_law_68 : decode cL_law 68 = .ok (.imul, 1) := by decide +kernel
theorem dL_law_69 : decode cL_law 69 = .ok (.iadd, 1) := by decide +kernel
theorem dL_law_70 : decode cL_law 70 = .ok (.istore 5, 2) := by decide +kernel
theorem dL_law_72 : decode cL_law 72 = .ok (.aload_n 1, 1) := by decide +kernel
theorem dL_law_73 : decode cL_law 73 = .ok (.aload_n 2, 1) := by decide +kernel
theorem dL_law_74 : decode cL_law 74 = .ok (.iload 5, 2) := by decide +kernel
theorem dL_law_76 : decode cL_law 76 = .ok (.invokestatic 68, 3) := by decide +kernel
theorem dL_law_79 : decode cL_law 79 = .ok (.ifCond .ne 5, 3) := by decide +kernel
theorem dL_law_82 : decode cL_law 82 = .ok (.iconst 0, 1) := by decide +kernel
theorem dL_law_83 : decode cL_law 83 = .ok (.ireturn, 1) := by decide +kernel
theorem dL_law_84 : decode cL_law 84 = .ok (.aload_n 1, 1) := by decide +kernel
theorem dL_law_85 : decode cL_law 85 = .ok (.invokevirtual 80, 3) := by decide +kernel
theorem dL_law_88 : decode cL_law 88 = .ok (.lstore 6, 2) := by decide +kernel
theorem dL_law_90 : decode cL_law 90 = .ok (.aload_n 1, 1) := by decide +kernel
theorem dL_law_91 : decode cL_law 91 = .ok (.iconst 3, 1) := by decide +kernel
theorem dL_law_92 : decode cL_law 92 = .ok (.invokevirtual 77, 3) := by decide +kernel
theorem dL_law_95 : decode cL_law 95 = .ok (.istore 8, 2) := by decide +kernel
theorem dL_law_97 : decode cL_law 97 = .ok (.iconst 0, 1) := by decide +kernel
theorem dL_law_98 : decode cL_law 98 = .ok (.istore 9, 2) := by decide +kernel
theorem dL_law_100 : decode cL_law 100 = .ok (.iconst 0, 1) := by decide +kernel
theorem dL_law_101 : decode cL_law 101 = .ok (.istore 10, 2) := by decide +kernel
theorem dL_law_103 : decode cL_law 103 = .ok (.iconst 0, 1) := by decide +kernel
theorem dL_law_104 : decode cL_law 104 = .ok (.istore 11, 2) := by decide +kernel
theorem dL_law_106 : decode cL_law 106 = .ok (.iconst 0, 1) := by decide +kernel
theorem dL_law_107 : decode cL_law 107 = .ok (.istore 12, 2) := by decide +kernel
theorem dL_law_109 : decode cL_law 109 = .ok (.aload_n 1, 1) := by decide +kernel
theorem dL_law_110 : decode cL_law 110 = .ok (.iconst 0, 1) := by decide +kernel
theorem dL_law_111 : decode cL_law 111 = .ok (.invokevirtual 77, 3) := by decide +kernel
theorem dL_law_114 : decode cL_law 114 = .ok (.istore 13, 2) := by decide +kernel
theorem dL_law_116 : decode cL_law 116 = .ok (.iconst 0, 1) := by decide +kernel
theorem dL_law_117 : decode cL_law 117 = .ok (.istore 14, 2) := by decide +kernel
theorem dL_law_119 : decode cL_law 119 = .ok (.iload 14, 2) := by decide +kernel
theorem dL_law_121 : decode cL_law 121 = .ok (.bipush 24, 2) := by decide +kernel
theorem dL_law_123 : decode cL_law 123 = .ok (.if_icmp .ge 352, 3) := by decide +kernel
theorem dL_law_126 : decode cL_law 126 = .ok (.iload 9, 2) := by decide +kernel
theorem dL_law_128 : decode cL_law 128 = .ok (.aload_n 1, 1) := by decide +kernel
theorem dL_law_129 : decode cL_law 129 = .ok (.iload 14, 2) := by decide +kernel
theorem dL_law_131 : decode cL_law 131 = .ok (.iconst 0, 1) := by decide +kernel
theorem dL_law_132 : decode cL_law 132 = .ok (.invokevirtual 84, 3) := by decide +kernel
theorem dL_law_135 : decode cL_law 135 = .ok (.iadd, 1) := by decide +kernel
theorem dL_law_136 : decode cL_law 136 = .ok (.istore 9, 2) := by decide +kernel
theorem dL_law_138 : decode cL_law 138 = .ok (.aload_n 1, 1) := by decide +kernel
theorem dL_law_139 : decode cL_law 139 = .ok (.iload 14, 2) := by decide +kernel
theorem dL_law_141 : decode cL_law 141 = .ok (.iconst 2, 1) := by decide +kernel
theorem dL_law_142 : decode cL_law 142 = .ok (.invokevirtual 84, 3) := by decide +kernel
theorem dL_law_145 : decode cL_law 145 = .ok (.aload_n 1, 1) := by decide +kernel
theorem dL_law_146 : decode cL_law 146 = .ok (.iload 14, 2) := by decide +kernel
theorem dL_law_148 : decode cL_law 148 = .ok (.iconst 0, 1) := by decide +kernel
theorem dL_law_149 : decode cL_law 149 = .ok (.invokevirtual 84, 3) := by decide +kernel
theorem dL_law_152 : decode cL_law 152 = .ok (.if_icmp .gt 78, 3) := by decide +kernel
theorem dL_law_155 : decode cL_law 155 = .ok (.aload_n 1, 1) := by decide +kernel
theorem dL_law_156 : decode cL_law 156 = .ok (.iload 14, 2) := by decide +kernel
theorem dL_law_158 : decode cL_law 158 = .ok (.iconst 1, 1) := by decide +kernel
theorem dL_law_159 : decode cL_law 159 = .ok (.invokevirtual 84, 3) := by decide +kernel
theorem dL_law_162 : decode cL_law 162 = .ok (.aload_n 1, 1) := by decide +kernel
theorem dL_law_163 : decode cL_law 163 = .ok (.iload 14, 2) := by decide +kernel
theorem dL_law_165 : decode cL_law 165 = .ok (.iconst 0, 1) := by decide +kernel
theorem dL_law_166 : decode cL_law 166 = .ok (.invokevirtual 84, 3) := by decide +kernel
theorem dL_law_169 : decode cL_law 169 = .ok (.if_icmp .gt 61, 3) := by decide +kernel
theorem dL_law_172 : decode cL_law 172 = .ok (.aload_n 1, 1) := by decide +kernel
theorem dL_law_173 : decode cL_law 173 = .ok (.iload 14, 2) := by decide +kernel
theorem dL_law_175 : decode cL_law 175 = .ok (.iconst 0, 1) := by decide +kernel
theorem dL_law_176 : decode cL_law 176 = .ok (.invokevirtual 84, 3) := by decide +kernel
theorem dL_law_179 : decode cL_law 179 = .ok (.ifCond .le 7, 3) := by decide +kernel
theorem dL_law_182 : decode cL_law 182 = .ok (.iconst 1, 1) := by decide +kernel
theorem dL_law_183 : decode cL_law 183 = .ok (.goto 4, 3) := by decide +kernel
theorem dL_law_186 : decode cL_law 186 = .ok (.iconst 0, 1) := by decide +kernel
theorem dL_law_187 : decode cL_law 187 = .ok (.aload_n 1, 1) := by decide +kernel
theorem dL_law_188 : decode cL_law 188 = .ok (.iload 14, 2) := by decide +kernel
theorem dL_law_190 : decode cL_law 190 = .ok (.iconst 3, 1) := by decide +kernel
theorem dL_law_191 : decode cL_law 191 = .ok (.invokevirtual 84, 3) := by decide +kernel
theorem dL_law_194 : decode cL_law 194 = .ok (.ifCond .le 7, 3) := by decide +kernel
theorem dL_law_197 : decode cL_law 197 = .ok (.iconst 1, 1) := by decide +kernel
theorem dL_law_198 : decode cL_law 198 = .ok (.goto 4, 3) := by decide +kernel
theorem dL_law_201 : decode cL_law 201 = .ok (.iconst 0, 1) := by decide +kernel
theorem dL_law_202 : decode cL_law 202 = .ok (.if_icmp .ne 28, 3) := by decide +kernel
theorem dL_law_205 : decode cL_law 205 = .ok (.aload_n 1, 1) := by decide +kernel
theorem dL_law_206 : decode cL_law 206 = .ok (.iload 14, 2) := by decide +kernel
theorem dL_law_208 : decode cL_law 208 = .ok (.iconst 1, 1) := by decide +kernel
theorem dL_law_209 : decode cL_law 209 = .ok (.invokevirtual 84, 3) := by decide +kernel
theorem dL_law_212 : decode cL_law 212 = .ok (.aload_n 1, 1) := by decide +kernel
theorem dL_law_213 : decode cL_law 213 = .ok (.iload 14, 2) := by decide +kernel
theorem dL_law_215 : decode cL_law 215 = .ok (.iconst 2, 1) := by decide +kernel
theorem dL_law_216 : decode cL_law 216 = .ok (.invokevirtual 84, 3) := by decide +kernel
theorem dL_law_219 : decode cL_law 219 = .ok (.imul, 1) := by decide +kernel
theorem dL_law_220 : decode cL_law 220 = .ok (.aload_n 1, 1) := by decide +kernel
theorem dL_law_221 : decode cL_law 221 = .ok (.iload 14, 2) := by decide +kernel
theorem dL_law_223 : decode cL_law 223 = .ok (.iconst 0, 1) := by decide +kernel
theorem dL_law_224 : decode cL_law 224 = .ok (.invokevirtual 84, 3) := by decide +kernel
theorem dL_law_227 : decode cL_law 227 = .ok (.if_icmp .ge 5, 3) := by decide +kernel
theorem dL_law_230 : decode cL_law 230 = .ok (.iconst 0, 1) := by decide +kernel
theorem dL_law_231 : decode cL_law 231 = .ok (.ireturn, 1) := by decide +kernel
theorem dL_law_232 : decode cL_law 232 = .ok (.iload 5, 2) := by decide +kernel
theorem dL_law_234 : decode cL_law 234 = .ok (.iconst 3, 1) := by decide +kernel
theorem dL_law_235 : decode cL_law 235 = .ok (.ishr, 1) := by decide +kernel
theorem dL_law_236 : decode cL_law 236 = .ok (.bipush 24, 2) := by decide +kernel
theorem dL_law_238 : decode cL_law 238 = .ok (.invokestatic 15, 3) := by decide +kernel
theorem dL_law_241 : decode cL_law 241 = .ok (.istore 15, 2) := by decide +kernel
theorem dL_law_243 : decode cL_law 243 = .ok (.aload_n 1, 1) := by decide +kernel
theorem dL_law_244 : decode cL_law 244 = .ok (.iload 14, 2) := by decide +kernel
theorem dL_law_246 : decode cL_law 246 = .ok (.iload 15, 2) := by decide +kernel
theorem dL_law_248 : decode cL_law 248 = .ok (.iconst 1, 1) := by decide +kernel
theorem dL_law_249 : decode cL_law 249 = .ok (.invokevirtual 87, 3) := by decide +kernel
theorem dL_law_252 : decode cL_law 252 = .ok (.istore 16, 2) := by decide +kernel
theorem dL_law_254 : decode cL_law 254 = .ok (.iload 16, 2) := by decide +kernel
theorem dL_law_256 : decode cL_law 256 = .ok (.ifCond .ge 7, 3) := by decide +kernel
theorem dL_law_259 : decode cL_law 259 = .ok (.iconst 1, 1) := by decide +kernel
theorem dL_law_260 : decode cL_law 260 = .ok (.goto 4, 3) := by decide +kernel
theorem dL_law_263 : decode cL_law 263 = .ok (.iconst 0, 1) := by decide +kernel
theorem dL_law_264 : decode cL_law 264 = .ok (.aload_n 1, 1) := by decide +kernel
theorem dL_law_265 : decode cL_law 265 = .ok (.iload 14, 2) := by decide +kernel
theorem dL_law_267 : decode cL_law 267 = .ok (.iload 15, 2) := by decide +kernel
theorem dL_law_269 : decode cL_law 269 = .ok (.iconst 0, 1) := by decide +kernel
theorem dL_law_270 : decode cL_law 270 = .ok (.invokevirtual 87, 3) := by decide +kernel
theorem dL_law_273 : decode cL_law 273 = .ok (.ifCond .ne 7, 3) := by decide +kernel
theorem dL_law_276 : decode cL_law 276 = .ok (.iconst 1, 1) := by decide +kernel
theorem dL_law_277 : decode cL_law 277 = .ok (.goto 4, 3) := by decide +kernel
theorem dL_law_280 : decode cL_law 280 = .ok (.iconst 0, 1) := by decide +kernel
theorem dL_law_281 : decode cL_law 281 = .ok (.if_icmp .ne 27, 3) := by decide +kernel
theorem dL_law_284 : decode cL_law 284 = .ok (.iload 16, 2) := by decide +kernel
theorem dL_law_286 : decode cL_law 286 = .ok (.iload 13, 2) := by decide +kernel
theorem dL_law_288 : decode cL_law 288 = .ok (.if_icmp .ge 20, 3) := by decide +kernel
theorem dL_law_291 : decode cL_law 291 = .ok (.aload_n 1, 1) := by decide +kernel
theorem dL_law_292 : decode cL_law 292 = .ok (.iload 14, 2) := by decide +kernel
theorem dL_law_294 : decode cL_law 294 = .ok (.iload 15, 2) := by decide +kernel
theorem dL_law_296 : decode cL_law 296 = .ok (.iconst 0, 1) := by decide +kernel
theorem dL_law_297 : decode cL_law 297 = .ok (.invokevirtual 87, 3) := by decide +kernel
theorem dL_law_300 : decode cL_law 300 = .ok (.aload_n 1, 1) := by decide +kernel
theorem dL_law_301 : decode cL_law 301 = .ok (.iconst 1, 1) := by decide +kernel
theorem dL_law_302 : decode cL_law 302 = .ok (.invokevirtual 77, 3) := by decide +kernel
theorem dL_law_305 : decode cL_law 305 = .ok (.if_icmp .le 5, 3) := by decide +kernel
theorem dL_law_308 : decode cL_law 308 = .ok (.iconst 0, 1) := by decide +kernel
theorem dL_law_309 : decode cL_law 309 = .ok (.ireturn, 1) := by decide +kernel
theorem dL_law_310 : decode cL_law 310 = .ok (.iconst 0, 1) := by decide +kernel
theorem dL_law_311 : decode cL_law 311 = .ok (.istore 17, 2) := by decide +kernel
theorem dL_law_313 : decode cL_law 313 = .ok (.iload 17, 2) := by decide +kernel
theorem dL_law_315 : decode cL_law 315 = .ok (.iload 13, 2) := by decide +kernel
theorem dL_law_317 : decode cL_law 317 = .ok (.if_icmp .ge 152, 3) := by decide +kernel
