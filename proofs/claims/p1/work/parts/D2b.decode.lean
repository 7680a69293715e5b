/-! The law's instructions. Written by wip/gen/law.py. -/
theorem d_482 : decode code 482 = .ok (.iadd, 1) := by decide +kernel
theorem d_483 : decode code 483 = .ok (.iaload, 1) := by decide +kernel
theorem d_484 : decode code 484 = .ok (.invokevirtual 51, 3) := by decide +kernel
theorem d_487 : decode code 487 = .ok (.aload_n 2, 1) := by decide +kernel
theorem d_488 : decode code 488 = .ok (.aload_n 0, 1) := by decide +kernel
theorem d_489 : decode code 489 = .ok (.iload_n 3, 1) := by decide +kernel
theorem d_490 : decode code 490 = .ok (.iconst 1, 1) := by decide +kernel
theorem d_491 : decode code 491 = .ok (.iadd, 1) := by decide +kernel
theorem d_492 : decode code 492 = .ok (.iaload, 1) := by decide +kernel
theorem d_493 : decode code 493 = .ok (.invokevirtual 54, 3) := by decide +kernel
theorem d_496 : decode code 496 = .ok (.if_icmp .eq 654, 3) := by decide +kernel
theorem d_499 : decode code 499 = .ok (.iconst 0, 1) := by decide +kernel
theorem d_500 : decode code 500 = .ok (.ireturn, 1) := by decide +kernel
theorem d_501 : decode code 501 = .ok (.aload_n 1, 1) := by decide +kernel
theorem d_502 : decode code 502 = .ok (.aload_n 0, 1) := by decide +kernel
theorem d_503 : decode code 503 = .ok (.iload_n 3, 1) := by decide +kernel
theorem d_504 : decode code 504 = .ok (.iconst 1, 1) := by decide +kernel
theorem d_505 : decode code 505 = .ok (.iadd, 1) := by decide +kernel
theorem d_506 : decode code 506 = .ok (.iaload, 1) := by decide +kernel
theorem d_507 : decode code 507 = .ok (.aload_n 0, 1) := by decide +kernel
theorem d_508 : decode code 508 = .ok (.iload_n 3, 1) := by decide +kernel
theorem d_509 : decode code 509 = .ok (.iconst 2, 1) := by decide +kernel
theorem d_510 : decode code 510 = .ok (.iadd, 1) := by decide +kernel
theorem d_511 : decode code 511 = .ok (.iaload, 1) := by decide +kernel
theorem d_512 : decode code 512 = .ok (.invokevirtual 55, 3) := by decide +kernel
theorem d_515 : decode code 515 = .ok (.aload_n 2, 1) := by decide +kernel
theorem d_516 : decode code 516 = .ok (.aload_n 0, 1) := by decide +kernel
theorem d_517 : decode code 517 = .ok (.iload_n 3, 1) := by decide +kernel
theorem d_518 : decode code 518 = .ok (.iconst 1, 1) := by decide +kernel
theorem d_519 : decode code 519 = .ok (.iadd, 1) := by decide +kernel
theorem d_520 : decode code 520 = .ok (.iaload, 1) := by decide +kernel
theorem d_521 : decode code 521 = .ok (.aload_n 0, 1) := by decide +kernel
theorem d_522 : decode code 522 = .ok (.iload_n 3, 1) := by decide +kernel
theorem d_523 : decode code 523 = .ok (.iconst 2, 1) := by decide +kernel
theorem d_524 : decode code 524 = .ok (.iadd, 1) := by decide +kernel
theorem d_525 : decode code 525 = .ok (.iaload, 1) := by decide +kernel
theorem d_526 : decode code 526 = .ok (.invokevirtual 58, 3) := by decide +kernel
theorem d_529 : decode code 529 = .ok (.if_icmp .eq 621, 3) := by decide +kernel
theorem d_532 : decode code 532 = .ok (.iconst 0, 1) := by decide +kernel
theorem d_533 : decode code 533 = .ok (.ireturn, 1) := by decide +kernel
theorem d_534 : decode code 534 = .ok (.aload_n 1, 1) := by decide +kernel
theorem d_535 : decode code 535 = .ok (.aload_n 0, 1) := by decide +kernel
theorem d_536 : decode code 536 = .ok (.iload_n 3, 1) := by decide +kernel
theorem d_537 : decode code 537 = .ok (.iconst 1, 1) := by decide +kernel
theorem d_538 : decode code 538 = .ok (.iadd, 1) := by decide +kernel
theorem d_539 : decode code 539 = .ok (.iaload, 1) := by decide +kernel
theorem d_540 : decode code 540 = .ok (.invokevirtual 59, 3) := by decide +kernel
theorem d_543 : decode code 543 = .ok (.aload_n 2, 1) := by decide +kernel
theorem d_544 : decode code 544 = .ok (.aload_n 0, 1) := by decide +kernel
theorem d_545 : decode code 545 = .ok (.iload_n 3, 1) := by decide +kernel
theorem d_546 : decode code 546 = .ok (.iconst 1, 1) := by decide +kernel
theorem d_547 : decode code 547 = .ok (.iadd, 1) := by decide +kernel
theorem d_548 : decode code 548 = .ok (.iaload, 1) := by decide +kernel
theorem d_549 : decode code 549 = .ok (.invokevirtual 62, 3) := by decide +kernel
theorem d_552 : decode code 552 = .ok (.if_icmp .eq 598, 3) := by decide +kernel
theorem d_555 : decode code 555 = .ok (.iconst 0, 1) := by decide +kernel
theorem d_556 : decode code 556 = .ok (.ireturn, 1) := by decide +kernel
theorem d_557 : decode code 557 = .ok (.aload_n 1, 1) := by decide +kernel
theorem d_558 : decode code 558 = .ok (.invokevirtual 63, 3) := by decide +kernel
theorem d_561 : decode code 561 = .ok (.aload_n 2, 1) := by decide +kernel
theorem d_562 : decode code 562 = .ok (.invokevirtual 66, 3) := by decide +kernel
theorem d_565 : decode code 565 = .ok (.if_icmp .eq 585, 3) := by decide +kernel
theorem d_568 : decode code 568 = .ok (.iconst 0, 1) := by decide +kernel
theorem d_569 : decode code 569 = .ok (.ireturn, 1) := by decide +kernel
theorem d_570 : decode code 570 = .ok (.aload_n 1, 1) := by decide +kernel
theorem d_571 : decode code 571 = .ok (.invokevirtual 67, 3) := by decide +kernel
theorem d_574 : decode code 574 = .ok (.aload_n 2, 1) := by decide +kernel
theorem d_575 : decode code 575 = .ok (.invokevirtual 70, 3) := by decide +kernel
theorem d_578 : decode code 578 = .ok (.if_icmp .eq 572, 3) := by decide +kernel
theorem d_581 : decode code 581 = .ok (.iconst 0, 1) := by decide +kernel
theorem d_582 : decode code 582 = .ok (.ireturn, 1) := by decide +kernel
theorem d_583 : decode code 583 = .ok (.aload_n 1, 1) := by decide +kernel
theorem d_584 : decode code 584 = .ok (.aload_n 0, 1) := by decide +kernel
theorem d_585 : decode code 585 = .ok (.iload_n 3, 1) := by decide +kernel
theorem d_586 : decode code 586 = .ok (.iconst 1, 1) := by decide +kernel
theorem d_587 : decode code 587 = .ok (.iadd, 1) := by decide +kernel
theorem d_588 : decode code 588 = .ok (.iaload, 1) := by decide +kernel
theorem d_589 : decode code 589 = .ok (.invokevirtual 71, 3) := by decide +kernel
theorem d_592 : decode code 592 = .ok (.aload_n 2, 1) := by decide +kernel
theorem d_593 : decode code 593 = .ok (.aload_n 0, 1) := by decide +kernel
theorem d_594 : decode code 594 = .ok (.iload_n 3, 1) := by decide +kernel
theorem d_595 : decode code 595 = .ok (.iconst 1, 1) := by decide +kernel
theorem d_596 : decode code 596 = .ok (.iadd, 1) := by decide +kernel
theorem d_597 : decode code 597 = .ok (.iaload, 1) := by decide +kernel
theorem d_598 : decode code 598 = .ok (.invokevirtual 74, 3) := by decide +kernel
theorem d_601 : decode code 601 = .ok (.if_icmp .eq 549, 3) := by decide +kernel
theorem d_604 : decode code 604 = .ok (.iconst 0, 1) := by decide +kernel
theorem d_605 : decode code 605 = .ok (.ireturn, 1) := by decide +kernel
theorem d_606 : decode code 606 = .ok (.aload_n 1, 1) := by decide +kernel
theorem d_607 : decode code 607 = .ok (.aload_n 0, 1) := by decide +kernel
theorem d_608 : decode code 608 = .ok (.iload_n 3, 1) := by decide +kernel
theorem d_609 : decode code 609 = .ok (.iconst 1, 1) := by decide +kernel
theorem d_610 : decode code 610 = .ok (.iadd, 1) := by decide +kernel
theorem d_611 : decode code 611 = .ok (.iaload, 1) := by decide +kernel
theorem d_612 : decode code 612 = .ok (.invokevirtual 75, 3) := by decide +kernel
theorem d_615 : decode code 615 = .ok (.aload_n 2, 1) := by decide +kernel
theorem d_616 : decode code 616 = .ok (.aload_n 0, 1) := by decide +kernel
theorem d_617 : decode code 617 = .ok (.iload_n 3, 1) := by decide +kernel
theorem d_618 : decode code 618 = .ok (.iconst 1, 1) := by decide +kernel
theorem d_619 : decode code 619 = .ok (.iadd, 1) := by decide +kernel
theorem d_620 : decode code 620 = .ok (.iaload, 1) := by decide +kernel
theorem d_621 : decode code 621 = .ok (.invokevirtual 78, 3) := by decide +kernel
theorem d_624 : decode code 624 = .ok (.if_icmp .eq 526, 3) := by decide +kernel
theorem d_627 : decode code 627 = .ok (.iconst 0, 1) := by decide +kernel
theorem d_628 : decode code 628 = .ok (.ireturn, 1) := by decide +kernel
theorem d_629 : decode code 629 = .ok (.aload_n 1, 1) := by decide +kernel
theorem d_630 : decode code 630 = .ok (.aload_n 0, 1) := by decide +kernel
theorem d_631 : decode code 631 = .ok (.iload_n 3, 1) := by decide +kernel
theorem d_632 : decode code 632 = .ok (.iconst 1, 1) := by decide +kernel
theorem d_633 : decode code 633 = .ok (.iadd, 1) := by decide +kernel
theorem d_634 : decode code 634 = .ok (.iaload, 1) := by decide +kernel
theorem d_635 : decode code 635 = .ok (.invokevirtual 79, 3) := by decide +kernel
theorem d_638 : decode code 638 = .ok (.aload_n 2, 1) := by decide +kernel
theorem d_639 : decode code 639 = .ok (.aload_n 0, 1) := by decide +kernel
theorem d_640 : decode code 640 = .ok (.iload_n 3, 1) := by decide +kernel
theorem d_641 : decode code 641 = .ok (.iconst 1, 1) := by decide +kernel
theorem d_642 : decode code 642 = .ok (.iadd, 1) := by decide +kernel
theorem d_643 : decode code 643 = .ok (.iaload, 1) := by decide +kernel
theorem d_644 : decode code 644 = .ok (.invokevirtual 82, 3) := by decide +kernel
theorem d_647 : decode code 647 = .ok (.if_icmp .eq 503, 3) := by decide +kernel
theorem d_650 : decode code 650 = .ok (.iconst 0, 1) := by decide +kernel
theorem d_651 : decode code 651 = .ok (.ireturn, 1) := by decide +kernel
theorem d_652 : decode code 652 = .ok (.aload_n 1, 1) := by decide +kernel
theorem d_653 : decode code 653 = .ok (.invokevirtual 83, 3) := by decide +kernel
theorem d_656 : decode code 656 = .ok (.aload_n 2, 1) := by decide +kernel
theorem d_657 : decode code 657 = .ok (.invokevirtual 86, 3) := by decide +kernel
theorem d_660 : decode code 660 = .ok (.if_icmp .eq 490, 3) := by decide +kernel
theorem d_663 : decode code 663 = .ok (.iconst 0, 1) := by decide +kernel
theorem d_664 : decode code 664 = .ok (.ireturn, 1) := by decide +kernel
theorem d_665 : decode code 665 = .ok (.aload_n 1, 1) := by decide +kernel
theorem d_666 : decode code 666 = .ok (.aload_n 0, 1) := by decide +kernel
theorem d_667 : decode code 667 = .ok (.iload_n 3, 1) := by decide +kernel
theorem d_668 : decode code 668 = .ok (.iconst 1, 1) := by decide +kernel
theorem d_669 : decode code 669 = .ok (.iadd, 1) := by decide +kernel
theorem d_670 : decode code 670 = .ok (.iaload, 1) := by decide +kernel
theorem d_671 : decode code 671 = .ok (.ifCond .eq 7, 3) := by decide +kernel
theorem d_674 : decode code 674 = .ok (.iconst 1, 1) := by decide +kernel
theorem d_675 : decode code 675 = .ok (.goto 4, 3) := by decide +kernel
theorem d_678 : decode code 678 = .ok (.iconst 0, 1) := by decide +kernel
theorem d_679 : decode code 679 = .ok (.invokevirtual 87, 3) := by decide +kernel
theorem d_682 : decode code 682 = .ok (.aload_n 2, 1) := by decide +kernel
theorem d_683 : decode code 683 = .ok (.aload_n 0, 1) := by decide +kernel
theorem d_684 : decode code 684 = .ok (.iload_n 3, 1) := by decide +kernel
theorem d_685 : decode code 685 = .ok (.iconst 1, 1) := by decide +kernel
theorem d_686 : decode code 686 = .ok (.iadd, 1) := by decide +kernel
theorem d_687 : decode code 687 = .ok (.iaload, 1) := by decide +kernel
theorem d_688 : decode code 688 = .ok (.ifCond .eq 7, 3) := by decide +kernel
theorem d_691 : decode code 691 = .ok (.iconst 1, 1) := by decide +kernel
theorem d_692 : decode code 692 = .ok (.goto 4, 3) := by decide +kernel
theorem d_695 : decode code 695 = .ok (.iconst 0, 1) := by decide +kernel
theorem d_696 : decode code 696 = .ok (.invokevirtual 91, 3) := by decide +kernel
theorem d_699 : decode code 699 = .ok (.if_icmp .eq 451, 3) := by decide +kernel
theorem d_702 : decode code 702 = .ok (.iconst 0, 1) := by decide +kernel
theorem d_703 : decode code 703 = .ok (.ireturn, 1) := by decide +kernel
theorem d_704 : decode code 704 = .ok (.aload_n 1, 1) := by decide +kernel
theorem d_705 : decode code 705 = .ok (.invokevirtual 92, 3) := by decide +kernel
theorem d_708 : decode code 708 = .ok (.aload_n 2, 1) := by decide +kernel
theorem d_709 : decode code 709 = .ok (.invokevirtual 95, 3) := by decide +kernel
theorem d_712 : decode code 712 = .ok (.if_icmp .eq 438, 3) := by decide +kernel
theorem d_715 : decode code 715 = .ok (.iconst 0, 1) := by decide +kernel
theorem d_716 : decode code 716 = .ok (.ireturn, 1) := by decide +kernel
theorem d_717 : decode code 717 = .ok (.aload_n 1, 1) := by decide +kernel
theorem d_718 : decode code 718 = .ok (.invokevirtual 96, 3) := by decide +kernel
theorem d_721 : decode code 721 = .ok (.aload_n 2, 1) := by decide +kernel
theorem d_722 : decode code 722 = .ok (.invokevirtual 99, 3) := by decide +kernel
theorem d_725 : decode code 725 = .ok (.if_icmp .eq 425, 3) := by decide +kernel
theorem d_728 : decode code 728 = .ok (.iconst 0, 1) := by decide +kernel
theorem d_729 : decode code 729 = .ok (.ireturn, 1) := by decide +kernel
theorem d_730 : decode code 730 = .ok (.aload_n 1, 1) := by decide +kernel
theorem d_731 : decode code 731 = .ok (.invokevirtual 100, 3) := by decide +kernel
theorem d_734 : decode code 734 = .ok (.aload_n 2, 1) := by decide +kernel
theorem d_735 : decode code 735 = .ok (.invokevirtual 103, 3) := by decide +kernel
theorem d_738 : decode code 738 = .ok (.if_icmp .eq 412, 3) := by decide +kernel
theorem d_741 : decode code 741 = .ok (.iconst 0, 1) := by decide +kernel
theorem d_742 : decode code 742 = .ok (.ireturn, 1) := by decide +kernel
theorem d_743 : decode code 743 = .ok (.aload_n 1, 1) := by decide +kernel
theorem d_744 : decode code 744 = .ok (.aload_n 0, 1) := by decide +kernel
theorem d_745 : decode code 745 = .ok (.iload_n 3, 1) := by decide +kernel
theorem d_746 : decode code 746 = .ok (.iconst 1, 1) := by decide +kernel
theorem d_747 : decode code 747 = .ok (.iadd, 1) := by decide +kernel
theorem d_748 : decode code 748 = .ok (.iaload, 1) := by decide +kernel
theorem d_749 : decode code 749 = .ok (.invokevirtual 104, 3) := by decide +kernel
theorem d_752 : decode code 752 = .ok (.aload_n 2, 1) := by decide +kernel
theorem d_753 : decode code 753 = .ok (.aload_n 0, 1) := by decide +kernel
theorem d_754 : decode code 754 = .ok (.iload_n 3, 1) := by decide +kernel
theorem d_755 : decode code 755 = .ok (.iconst 1, 1) := by decide +kernel
theorem d_756 : decode code 756 = .ok (.iadd, 1) := by decide +kernel
theorem d_757 : decode code 757 = .ok (.iaload, 1) := by decide +kernel
theorem d_758 : decode code 758 = .ok (.invokevirtual 107, 3) := by decide +kernel
theorem d_761 : decode code 761 = .ok (.if_icmp .eq 389, 3) := by decide +kernel
theorem d_764 : decode code 764 = .ok (.iconst 0, 1) := by decide +kernel
theorem d_765 : decode code 765 = .ok (.ireturn, 1) := by decide +kernel
theorem d_766 : decode code 766 = .ok (.aload_n 1, 1) := by decide +kernel
theorem d_767 : decode code 767 = .ok (.aload_n 0, 1) := by decide +kernel
theorem d_768 : decode code 768 = .ok (.iload_n 3, 1) := by decide +kernel
theorem d_769 : decode code 769 = .ok (.iconst 1, 1) := by decide +kernel
theorem d_770 : decode code 770 = .ok (.iadd, 1) := by decide +kernel
theorem d_771 : decode code 771 = .ok (.iaload, 1) := by decide +kernel
theorem d_772 : decode code 772 = .ok (.invokevirtual 108, 3) := by decide +kernel
theorem d_775 : decode code 775 = .ok (.aload_n 2, 1) := by decide +kernel
theorem d_776 : decode code 776 = .ok (.aload_n 0, 1) := by decide +kernel
theorem d_777 : decode code 777 = .ok (.iload_n 3, 1) := by decide +kernel
theorem d_778 : decode code 778 = .ok (.iconst 1, 1) := by decide +kernel
theorem d_779 : decode code 779 = .ok (.iadd, 1) := by decide +kernel
theorem d_780 : decode code 780 = .ok (.iaload, 1) := by decide +kernel
theorem d_781 : decode code 781 = .ok (.invokevirtual 111, 3) := by decide +kernel
theorem d_784 : decode code 784 = .ok (.if_icmp .eq 366, 3) := by decide +kernel
theorem d_787 : decode code 787 = .ok (.iconst 0, 1) := by decide +kernel
theorem d_788 : decode code 788 = .ok (.ireturn, 1) := by decide +kernel
theorem d_789 : decode code 789 = .ok (.aload_n 1, 1) := by decide +kernel
theorem d_790 : decode code 790 = .ok (.aload_n 0, 1) := by decide +kernel
theorem d_791 : decode code 791 = .ok (.iload_n 3, 1) := by decide +kernel
theorem d_792 : decode code 792 = .ok (.iconst 1, 1) := by decide +kernel
theorem d_793 : decode code 793 = .ok (.iadd, 1) := by decide +kernel
theorem d_794 : decode code 794 = .ok (.iaload, 1) := by decide +kernel
theorem d_795 : decode code 795 = .ok (.invokevirtual 112, 3) := by decide +kernel
theorem d_798 : decode code 798 = .ok (.aload_n 2, 1) := by decide +kernel
theorem d_799 : decode code 799 = .ok (.aload_n 0, 1) := by decide +kernel
theorem d_800 : decode code 800 = .ok (.iload_n 3, 1) := by decide +kernel
theorem d_801 : decode code 801 = .ok (.iconst 1, 1) := by decide +kernel
theorem d_802 : decode code 802 = .ok (.iadd, 1) := by decide +kernel
theorem d_803 : decode code 803 = .ok (.iaload, 1) := by decide +kernel
theorem d_804 : decode code 804 = .ok (.invokevirtual 115, 3) := by decide +kernel
theorem d_807 : decode code 807 = .ok (.if_icmp .eq 343, 3) := by decide +kernel
theorem d_810 : decode code 810 = .ok (.iconst 0, 1) := by decide +kernel
theorem d_811 : decode code 811 = .ok (.ireturn, 1) := by decide +kernel
theorem d_812 : decode code 812 = .ok (.aload_n 1, 1) := by decide +kernel
theorem d_813 : decode code 813 = .ok (.aload_n 0, 1) := by decide +kernel
theorem d_814 : decode code 814 = .ok (.iload_n 3, 1) := by decide +kernel
theorem d_815 : decode code 815 = .ok (.iconst 1, 1) := by decide +kernel
theorem d_816 : decode code 816 = .ok (.iadd, 1) := by decide +kernel
theorem d_817 : decode code 817 = .ok (.iaload, 1) := by decide +kernel
theorem d_818 : decode code 818 = .ok (.invokevirtual 116, 3) := by decide +kernel
theorem d_821 : decode code 821 = .ok (.aload_n 2, 1) := by decide +kernel
theorem d_822 : decode code 822 = .ok (.aload_n 0, 1) := by decide +kernel
theorem d_823 : decode code 823 = .ok (.iload_n 3, 1) := by decide +kernel
theorem d_824 : decode code 824 = .ok (.iconst 1, 1) := by decide +kernel
theorem d_825 : decode code 825 = .ok (.iadd, 1) := by decide +kernel
theorem d_826 : decode code 826 = .ok (.iaload, 1) := by decide +kernel
theorem d_827 : decode code 827 = .ok (.invokevirtual 119, 3) := by decide +kernel
