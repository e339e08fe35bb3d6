section LAWC
variable {G : z_G} {n0 d rc rs dc dr mc ms : Nat} {K : z_K} {I : z_I} {L : z_L} {Q : z_R} {b Lx : Nat} {xs : Nat → Int32} {i : Nat}
theorem dL_law_507 : decode cL_law 507 = .ok (.aload_n 1, 1) := by decide +kernel
theorem dL_law_508 : decode cL_law 508 = .ok (.aload_n 0, 1) := by decide +kernel
theorem dL_law_509 : decode cL_law 509 = .ok (.iload_n 3, 1) := by decide +kernel
theorem dL_law_510 : decode cL_law 510 = .ok (.iconst 1, 1) := by decide +kernel
theorem dL_law_511 : decode cL_law 511 = .ok (.iadd, 1) := by decide +kernel
theorem dL_law_512 : decode cL_law 512 = .ok (.iaload, 1) := by decide +kernel
theorem dL_law_513 : decode cL_law 513 = .ok (.invokevirtual 44, 3) := by decide +kernel
theorem dL_law_516 : decode cL_law 516 = .ok (.aload_n 2, 1) := by decide +kernel
theorem dL_law_517 : decode cL_law 517 = .ok (.aload_n 0, 1) := by decide +kernel
theorem dL_law_518 : decode cL_law 518 = .ok (.iload_n 3, 1) := by decide +kernel
theorem dL_law_519 : decode cL_law 519 = .ok (.iconst 1, 1) := by decide +kernel
theorem dL_law_520 : decode cL_law 520 = .ok (.iadd, 1) := by decide +kernel
theorem dL_law_521 : decode cL_law 521 = .ok (.iaload, 1) := by decide +kernel
theorem dL_law_522 : decode cL_law 522 = .ok (.invokevirtual 47, 3) := by decide +kernel
theorem dL_law_525 : decode cL_law 525 = .ok (.if_icmp .eq 1817, 3) := by decide +kernel
theorem dL_law_530 : decode cL_law 530 = .ok (.aload_n 1, 1) := by decide +kernel
theorem dL_law_531 : decode cL_law 531 = .ok (.aload_n 0, 1) := by decide +kernel
theorem dL_law_532 : decode cL_law 532 = .ok (.iload_n 3, 1) := by decide +kernel
theorem dL_law_533 : decode cL_law 533 = .ok (.iconst 1, 1) := by decide +kernel
theorem dL_law_534 : decode cL_law 534 = .ok (.iadd, 1) := by decide +kernel
theorem dL_law_535 : decode cL_law 535 = .ok (.iaload, 1) := by decide +kernel
theorem dL_law_536 : decode cL_law 536 = .ok (.aload_n 0, 1) := by decide +kernel
theorem dL_law_537 : decode cL_law 537 = .ok (.iload_n 3, 1) := by decide +kernel
theorem dL_law_538 : decode cL_law 538 = .ok (.iconst 2, 1) := by decide +kernel
theorem dL_law_539 : decode cL_law 539 = .ok (.iadd, 1) := by decide +kernel
theorem dL_law_540 : decode cL_law 540 = .ok (.iaload, 1) := by decide +kernel
theorem dL_law_541 : decode cL_law 541 = .ok (.i2l, 1) := by decide +kernel
theorem dL_law_542 : decode cL_law 542 = .ok (.bipush 32, 2) := by decide +kernel
theorem dL_law_544 : decode cL_law 544 = .ok (.lshl, 1) := by decide +kernel
theorem dL_law_545 : decode cL_law 545 = .ok (.aload_n 0, 1) := by decide +kernel
theorem dL_law_546 : decode cL_law 546 = .ok (.iload_n 3, 1) := by decide +kernel
theorem dL_law_547 : decode cL_law 547 = .ok (.iconst 3, 1) := by decide +kernel
theorem dL_law_548 : decode cL_law 548 = .ok (.iadd, 1) := by decide +kernel
theorem dL_law_549 : decode cL_law 549 = .ok (.iaload, 1) := by decide +kernel
theorem dL_law_550 : decode cL_law 550 = .ok (.i2l, 1) := by decide +kernel
theorem dL_law_551 : decode cL_law 551 = .ok (.ldc2_w 48, 3) := by decide +kernel
theorem dL_law_554 : decode cL_law 554 = .ok (.land, 1) := by decide +kernel
theorem dL_law_555 : decode cL_law 555 = .ok (.lor, 1) := by decide +kernel
theorem dL_law_556 : decode cL_law 556 = .ok (.invokevirtual 50, 3) := by decide +kernel
theorem dL_law_559 : decode cL_law 559 = .ok (.aload_n 2, 1) := by decide +kernel
theorem dL_law_560 : decode cL_law 560 = .ok (.aload_n 0, 1) := by decide +kernel
theorem dL_law_561 : decode cL_law 561 = .ok (.iload_n 3, 1) := by decide +kernel
theorem dL_law_562 : decode cL_law 562 = .ok (.iconst 1, 1) := by decide +kernel
theorem dL_law_563 : decode cL_law 563 = .ok (.iadd, 1) := by decide +kernel
theorem dL_law_564 : decode cL_law 564 = .ok (.iaload, 1) := by decide +kernel
theorem dL_law_565 : decode cL_law 565 = .ok (.aload_n 0, 1) := by decide +kernel
theorem dL_law_566 : decode cL_law 566 = .ok (.iload_n 3, 1) := by decide +kernel
theorem dL_law_567 : decode cL_law 567 = .ok (.iconst 2, 1) := by decide +kernel
theorem dL_law_568 : decode cL_law 568 = .ok (.iadd, 1) := by decide +kernel
theorem dL_law_569 : decode cL_law 569 = .ok (.iaload, 1) := by decide +kernel
theorem dL_law_570 : decode cL_law 570 = .ok (.i2l, 1) := by decide +kernel
theorem dL_law_571 : decode cL_law 571 = .ok (.bipush 32, 2) := by decide +kernel
theorem dL_law_573 : decode cL_law 573 = .ok (.lshl, 1) := by decide +kernel
theorem dL_law_574 : decode cL_law 574 = .ok (.aload_n 0, 1) := by decide +kernel
theorem dL_law_575 : decode cL_law 575 = .ok (.iload_n 3, 1) := by decide +kernel
theorem dL_law_576 : decode cL_law 576 = .ok (.iconst 3, 1) := by decide +kernel
theorem dL_law_577 : decode cL_law 577 = .ok (.iadd, 1) := by decide +kernel
theorem dL_law_578 : decode cL_law 578 = .ok (.iaload, 1) := by decide +kernel
theorem dL_law_579 : decode cL_law 579 = .ok (.i2l, 1) := by decide +kernel
theorem dL_law_580 : decode cL_law 580 = .ok (.ldc2_w 48, 3) := by decide +kernel
theorem dL_law_583 : decode cL_law 583 = .ok (.land, 1) := by decide +kernel
theorem dL_law_584 : decode cL_law 584 = .ok (.lor, 1) := by decide +kernel
theorem dL_law_585 : decode cL_law 585 = .ok (.invokevirtual 54, 3) := by decide +kernel
theorem dL_law_588 : decode cL_law 588 = .ok (.if_icmp .eq 1754, 3) := by decide +kernel
theorem dL_law_593 : decode cL_law 593 = .ok (.aload_n 1, 1) := by decide +kernel
theorem dL_law_594 : decode cL_law 594 = .ok (.aload_n 0, 1) := by decide +kernel
theorem dL_law_595 : decode cL_law 595 = .ok (.iload_n 3, 1) := by decide +kernel
theorem dL_law_596 : decode cL_law 596 = .ok (.iconst 1, 1) := by decide +kernel
theorem dL_law_597 : decode cL_law 597 = .ok (.iadd, 1) := by decide +kernel
theorem dL_law_598 : decode cL_law 598 = .ok (.iaload, 1) := by decide +kernel
theorem dL_law_599 : decode cL_law 599 = .ok (.aload_n 0, 1) := by decide +kernel
theorem dL_law_600 : decode cL_law 600 = .ok (.iload_n 3, 1) := by decide +kernel
theorem dL_law_601 : decode cL_law 601 = .ok (.iconst 2, 1) := by decide +kernel
theorem dL_law_602 : decode cL_law 602 = .ok (.iadd, 1) := by decide +kernel
theorem dL_law_603 : decode cL_law 603 = .ok (.iaload, 1) := by decide +kernel
theorem dL_law_604 : decode cL_law 604 = .ok (.aload_n 0, 1) := by decide +kernel
theorem dL_law_605 : decode cL_law 605 = .ok (.iload_n 3, 1) := by decide +kernel
theorem dL_law_606 : decode cL_law 606 = .ok (.iconst 3, 1) := by decide +kernel
theorem dL_law_607 : decode cL_law 607 = .ok (.iadd, 1) := by decide +kernel
theorem dL_law_608 : decode cL_law 608 = .ok (.iaload, 1) := by decide +kernel
theorem dL_law_609 : decode cL_law 609 = .ok (.invokevirtual 55, 3) := by decide +kernel
theorem dL_law_612 : decode cL_law 612 = .ok (.aload_n 2, 1) := by decide +kernel
theorem dL_law_613 : decode cL_law 613 = .ok (.aload_n 0, 1) := by decide +kernel
theorem dL_law_614 : decode cL_law 614 = .ok (.iload_n 3, 1) := by decide +kernel
theorem dL_law_615 : decode cL_law 615 = .ok (.iconst 1, 1) := by decide +kernel
theorem dL_law_616 : decode cL_law 616 = .ok (.iadd, 1) := by decide +kernel
theorem dL_law_617 : decode cL_law 617 = .ok (.iaload, 1) := by decide +kernel
theorem dL_law_618 : decode cL_law 618 = .ok (.aload_n 0, 1) := by decide +kernel
theorem dL_law_619 : decode cL_law 619 = .ok (.iload_n 3, 1) := by decide +kernel
theorem dL_law_620 : decode cL_law 620 = .ok (.iconst 2, 1) := by decide +kernel
theorem dL_law_621 : decode cL_law 621 = .ok (.iadd, 1) := by decide +kernel
theorem dL_law_622 : decode cL_law 622 = .ok (.iaload, 1) := by decide +kernel
theorem dL_law_623 : decode cL_law 623 = .ok (.aload_n 0, 1) := by decide +kernel
theorem dL_law_624 : decode cL_law 624 = .ok (.iload_n 3, 1) := by decide +kernel
theorem dL_law_625 : decode cL_law 625 = .ok (.iconst 3, 1) := by decide +kernel
theorem dL_law_626 : decode cL_law 626 = .ok (.iadd, 1) := by decide +kernel
theorem dL_law_627 : decode cL_law 627 = .ok (.iaload, 1) := by decide +kernel
theorem dL_law_628 : decode cL_law 628 = .ok (.invokevirtual 58, 3) := by decide +kernel
theorem dL_law_631 : decode cL_law 631 = .ok (.if_icmp .eq 1711, 3) := by decide +kernel
theorem dL_law_636 : decode cL_law 636 = .ok (.aload_n 1, 1) := by decide +kernel
theorem dL_law_637 : decode cL_law 637 = .ok (.aload_n 0, 1) := by decide +kernel
theorem dL_law_638 : decode cL_law 638 = .ok (.iload_n 3, 1) := by decide +kernel
theorem dL_law_639 : decode cL_law 639 = .ok (.iconst 1, 1) := by decide +kernel
theorem dL_law_640 : decode cL_law 640 = .ok (.iadd, 1) := by decide +kernel
theorem dL_law_641 : decode cL_law 641 = .ok (.iaload, 1) := by decide +kernel
theorem dL_law_642 : decode cL_law 642 = .ok (.aload_n 0, 1) := by decide +kernel
theorem dL_law_643 : decode cL_law 643 = .ok (.iload_n 3, 1) := by decide +kernel
theorem dL_law_644 : decode cL_law 644 = .ok (.iconst 2, 1) := by decide +kernel
theorem dL_law_645 : decode cL_law 645 = .ok (.iadd, 1) := by decide +kernel
theorem dL_law_646 : decode cL_law 646 = .ok (.iaload, 1) := by decide +kernel
theorem dL_law_647 : decode cL_law 647 = .ok (.aload_n 0, 1) := by decide +kernel
theorem dL_law_648 : decode cL_law 648 = .ok (.iload_n 3, 1) := by decide +kernel
theorem dL_law_649 : decode cL_law 649 = .ok (.iconst 3, 1) := by decide +kernel
theorem dL_law_650 : decode cL_law 650 = .ok (.iadd, 1) := by decide +kernel
theorem dL_law_651 : decode cL_law 651 = .ok (.iaload, 1) := by decide +kernel
theorem dL_law_652 : decode cL_law 652 = .ok (.invokevirtual 59, 3) := by decide +kernel
theorem dL_law_655 : decode cL_law 655 = .ok (.aload_n 2, 1) := by decide +kernel
theorem dL_law_656 : decode cL_law 656 = .ok (.aload_n 0, 1) := by decide +kernel
theorem dL_law_657 : decode cL_law 657 = .ok (.iload_n 3, 1) := by decide +kernel
theorem dL_law_658 : decode cL_law 658 = .ok (.iconst 1, 1) := by decide +kernel
theorem dL_law_659 : decode cL_law 659 = .ok (.iadd, 1) := by decide +kernel
theorem dL_law_660 : decode cL_law 660 = .ok (.iaload, 1) := by decide +kernel
theorem dL_law_661 : decode cL_law 661 = .ok (.aload_n 0, 1) := by decide +kernel
theorem dL_law_662 : decode cL_law 662 = .ok (.iload_n 3, 1) := by decide +kernel
theorem dL_law_663 : decode cL_law 663 = .ok (.iconst 2, 1) := by decide +kernel
theorem dL_law_664 : decode cL_law 664 = .ok (.iadd, 1) := by decide +kernel
theorem dL_law_665 : decode cL_law 665 = .ok (.iaload, 1) := by decide +kernel
theorem dL_law_666 : decode cL_law 666 = .ok (.aload_n 0, 1) := by decide +kernel
theorem dL_law_667 : decode cL_law 667 = .ok (.iload_n 3, 1) := by decide +kernel
theorem dL_law_668 : decode cL_law 668 = .ok (.iconst 3, 1) := by decide +kernel
theorem dL_law_669 : decode cL_law 669 = .ok (.iadd, 1) := by decide +kernel
theorem dL_law_670 : decode cL_law 670 = .ok (.iaload, 1) := by decide +kernel
theorem dL_law_671 : decode cL_law 671 = .ok (.invokevirtual 62, 3) := by decide +kernel
theorem dL_law_674 : decode cL_law 674 = .ok (.if_icmp .eq 1668, 3) := by decide +kernel
theorem dL_law_679 : decode cL_law 679 = .ok (.aload_n 1, 1) := by decide +kernel
theorem dL_law_680 : decode cL_law 680 = .ok (.aload_n 0, 1) := by decide +kernel
theorem dL_law_681 : decode cL_law 681 = .ok (.iload_n 3, 1) := by decide +kernel
theorem dL_law_682 : decode cL_law 682 = .ok (.iconst 1, 1) := by decide +kernel
theorem dL_law_683 : decode cL_law 683 = .ok (.iadd, 1) := by decide +kernel
theorem dL_law_684 : decode cL_law 684 = .ok (.iaload, 1) := by decide +kernel
theorem dL_law_685 : decode cL_law 685 = .ok (.aload_n 0, 1) := by decide +kernel
theorem dL_law_686 : decode cL_law 686 = .ok (.iload_n 3, 1) := by decide +kernel
theorem dL_law_687 : decode cL_law 687 = .ok (.iconst 2, 1) := by decide +kernel
theorem dL_law_688 : decode cL_law 688 = .ok (.iadd, 1) := by decide +kernel
theorem dL_law_689 : decode cL_law 689 = .ok (.iaload, 1) := by decide +kernel
theorem dL_law_690 : decode cL_law 690 = .ok (.aload_n 0, 1) := by decide +kernel
theorem dL_law_691 : decode cL_law 691 = .ok (.iload_n 3, 1) := by decide +kernel
theorem dL_law_692 : decode cL_law 692 = .ok (.iconst 3, 1) := by decide +kernel
theorem dL_law_693 : decode cL_law 693 = .ok (.iadd, 1) := by decide +kernel
theorem dL_law_694 : decode cL_law 694 = .ok (.iaload, 1) := by decide +kernel
theorem dL_law_695 : decode cL_law 695 = .ok (.invokevirtual 63, 3) := by decide +kernel
theorem dL_law_698 : decode cL_law 698 = .ok (.aload_n 2, 1) := by decide +kernel
theorem dL_law_699 : decode cL_law 699 = .ok (.aload_n 0, 1) := by decide +kernel
theorem dL_law_700 : decode cL_law 700 = .ok (.iload_n 3, 1) := by decide +kernel
theorem dL_law_701 : decode cL_law 701 = .ok (.iconst 1, 1) := by decide +kernel
theorem dL_law_702 : decode cL_law 702 = .ok (.iadd, 1) := by decide +kernel
theorem dL_law_703 : decode cL_law 703 = .ok (.iaload, 1) := by decide +kernel
theorem dL_law_704 : decode cL_law 704 = .ok (.aload_n 0, 1) := by decide +kernel
theorem dL_law_705 : decode cL_law 705 = .ok (.iload_n 3, 1) := by decide +kernel
theorem dL_law_706 : decode cL_law 706 = .ok (.iconst 2, 1) := by decide +kernel
theorem dL_law_707 : decode cL_law 707 = .ok (.iadd, 1) := by decide +kernel
theorem dL_law_708 : decode cL_law 708 = .ok (.iaload, 1) := by decide +kernel
theorem dL_law_709 : decode cL_law 709 = .ok (.aload_n 0, 1) := by decide +kernel
theorem dL_law_710 : decode cL_law 710 = .ok (.iload_n 3, 1) := by decide +kernel
theorem dL_law_711 : decode cL_law 711 = .ok (.iconst 3, 1) := by decide +kernel
theorem dL_law_712 : decode cL_law 712 = .ok (.iadd, 1) := by decide +kernel
theorem dL_law_713 : decode cL_law 713 = .ok (.iaload, 1) := by decide +kernel
theorem dL_law_714 : decode cL_law 714 = .ok (.invokevirtual 66, 3) := by decide +kernel
theorem dL_law_717 : decode cL_law 717 = .ok (.if_icmp .eq 1625, 3) := by decide +kernel
theorem dL_law_722 : decode cL_law 722 = .ok (.aload_n 1, 1) := by decide +kernel
theorem dL_law_723 : decode cL_law 723 = .ok (.aload_n 0, 1) := by decide +kernel
theorem dL_law_724 : decode cL_law 724 = .ok (.iload_n 3, 1) := by decide +kernel
theorem dL_law_725 : decode cL_law 725 = .ok (.iconst 1, 1) := by decide +kernel
theorem dL_law_726 : decode cL_law 726 = .ok (.iadd, 1) := by decide +kernel
theorem dL_law_727 : decode cL_law 727 = .ok (.iaload, 1) := by decide +kernel
theorem dL_law_728 : decode cL_law 728 = .ok (.aload_n 0, 1) := by decide +kernel
theorem dL_law_729 : decode cL_law 729 = .ok (.iload_n 3, 1) := by decide +kernel
theorem dL_law_730 : decode cL_law 730 = .ok (.iconst 2, 1) := by decide +kernel
theorem dL_law_731 : decode cL_law 731 = .ok (.iadd, 1) := by decide +kernel
theorem dL_law_732 : decode cL_law 732 = .ok (.iaload, 1) := by decide +kernel
theorem dL_law_733 : decode cL_law 733 = .ok (.aload_n 0, 1) := by decide +kernel
theorem dL_law_734 : decode cL_law 734 = .ok (.iload_n 3, 1) := by decide +kernel
theorem dL_law_735 : decode cL_law 735 = .ok (.iconst 3, 1) := by decide +kernel
theorem dL_law_736 : decode cL_law 736 = .ok (.iadd, 1) := by decide +kernel
theorem dL_law_737 : decode cL_law 737 = .ok (.iaload, 1) := by decide +kernel
theorem dL_law_738 : decode cL_law 738 = .ok (.aload_n 0, 1) := by decide +kernel
theorem dL_law_739 : decode cL_law 739 = .ok (.iload_n 3, 1) := by decide +kernel
theorem dL_law_740 : decode cL_law 740 = .ok (.iconst 4, 1) := by decide +kernel
theorem dL_law_741 : decode cL_law 741 = .ok (.iadd, 1) := by decide +kernel
theorem dL_law_742 : decode cL_law 742 = .ok (.iaload, 1) := by decide +kernel
theorem dL_law_743 : decode cL_law 743 = .ok (.invokevirtual 67, 3) := by decide +kernel
theorem dL_law_746 : decode cL_law 746 = .ok (.aload_n 2, 1) := by decide +kernel
theorem dL_law_747 : decode cL_law 747 = .ok (.aload_n 0, 1) := by decide +kernel
theorem dL_law_748 : decode cL_law 748 = .ok (.iload_n 3, 1) := by decide +kernel
theorem dL_law_749 : decode cL_law 749 = .ok (.iconst 1, 1) := by decide +kernel
theorem dL_law_750 : decode cL_law 750 = .ok (.iadd, 1) := by decide +kernel
theorem dL_law_751 : decode cL_law 751 = .ok (.iaload, 1) := by decide +kernel
theorem dL_law_752 : decode cL_law 752 = .ok (.aload_n 0, 1) := by decide +kernel
theorem dL_law_753 : decode cL_law 753 = .ok (.iload_n 3, 1) := by decide +kernel
theorem dL_law_754 : decode cL_law 754 = .ok (.iconst 2, 1) := by decide +kernel
theorem dL_law_755 : decode cL_law 755 = .ok (.iadd, 1) := by decide +kernel
theorem dL_law_756 : decode cL_law 756 = .ok (.iaload, 1) := by decide +kernel
theorem dL_law_757 : decode cL_law 757 = .ok (.aload_n 0, 1) := by decide +kernel
theorem dL_law_758 : decode cL_law 758 = .ok (.iload_n 3, 1) := by decide +kernel
theorem dL_law_759 : decode cL_law 759 = .ok (.iconst 3, 1) := by decide +kernel
theorem dL_law_760 : decode cL_law 760 = .ok (.iadd, 1) := by decide +kernel
theorem dL_law_761 : decode cL_law 761 = .ok (.iaload, 1) := by decide +kernel
theorem dL_law_762 : decode cL_law 762 = .ok (.aload_n 0, 1) := by decide +kernel
theorem dL_law_763 : decode cL_law 763 = .ok (.iload_n 3, 1) := by decide +kernel
theorem dL_law_764 : decode cL_law 764 = .ok (.iconst 4, 1) := by decide +kernel
theorem dL_law_765 : decode cL_law 765 = .ok (.iadd, 1) := by decide +kernel
theorem dL_law_766 : decode cL_law 766 = .ok (.iaload, 1) := by decide +kernel
theorem dL_law_767 : decode cL_law 767 = .ok (.invokevirtual 71, 3) := by decide +kernel
theorem dL_law_770 : decode cL_law 770 = .ok (.if_icmp .eq 1572, 3) := by decide +kernel
theorem dL_law_775 : decode cL_law 775 = .ok (.aload_n 1, 1) := by decide +kernel
theorem dL_law_776 : decode cL_law 776 = .ok (.aload_n 0, 1) := by decide +kernel
theorem dL_law_777 : decode cL_law 777 = .ok (.iload_n 3, 1) := by decide +kernel
theorem dL_law_778 : decode cL_law 778 = .ok (.iconst 1, 1) := by decide +kernel
theorem dL_law_779 : decode cL_law 779 = .ok (.iadd, 1) := by decide +kernel
theorem dL_law_780 : decode cL_law 780 = .ok (.iaload, 1) := by decide +kernel
theorem dL_law_781 : decode cL_law 781 = .ok (.aload_n 0, 1) := by decide +kernel
theorem dL_law_782 : decode cL_law 782 = .ok (.iload_n 3, 1) := by decide +kernel
theorem dL_law_783 : decode cL_law 783 = .ok (.iconst 2, 1) := by decide +kernel
theorem dL_law_784 : decode cL_law 784 = .ok (.iadd, 1) := by decide +kernel
theorem dL_law_785 : decode cL_law 785 = .ok (.iaload, 1) := by decide +kernel
theorem dL_law_786 : decode cL_law 786 = .ok (.aload_n 0, 1) := by decide +kernel
theorem dL_law_787 : decode cL_law 787 = .ok (.iload_n 3, 1) := by decide +kernel
theorem dL_law_788 : decode cL_law 788 = .ok (.iconst 3, 1) := by decide +kernel
theorem dL_law_789 : decode cL_law 789 = .ok (.iadd, 1) := by decide +kernel
theorem dL_law_790 : decode cL_law 790 = .ok (.iaload, 1) := by decide +kernel
theorem dL_law_791 : decode cL_law 791 = .ok (.aload_n 0, 1) := by decide +kernel
theorem dL_law_792 : decode cL_law 792 = .ok (.iload_n 3, 1) := by decide +kernel
theorem dL_law_793 : decode cL_law 793 = .ok (.iconst 4, 1) := by decide +kernel
theorem dL_law_794 : decode cL_law 794 = .ok (.iadd, 1) := by decide +kernel
theorem dL_law_795 : decode cL_law 795 = .ok (.iaload, 1) := by decide +kernel
theorem dL_law_796 : decode cL_law 796 = .ok (.aload_n 0, 1) := by decide +kernel
theorem dL_law_797 : decode cL_law 797 = .ok (.iload_n 3, 1) := by decide +kernel
theorem dL_law_798 : decode cL_law 798 = .ok (.iconst 5, 1) := by decide +kernel
theorem dL_law_799 : decode cL_law 799 = .ok (.iadd, 1) := by decide +kernel
theorem dL_law_800 : decode cL_law 800 = .ok (.iaload, 1) := by decide +kernel
theorem dL_law_801 : decode cL_law 801 = .ok (.invokevirtual 72, 3) := by decide +kernel
theorem dL_law_804 : decode cL_law 804 = .ok (.aload_n 2, 1) := by decide +kernel
theorem dL_law_805 : decode cL_law 805 = .ok (.aload_n 0, 1) := by decide +kernel
theorem dL_law_806 : decode cL_law 806 = .ok (.iload_n 3, 1) := by decide +kernel
theorem dL_law_807 : decode cL_law 807 = .ok (.iconst 1, 1) := by decide +kernel
theorem dL_law_808 : decode cL_law 808 = .ok (.iadd, 1) := by decide +kernel
theorem dL_law_809 : decode cL_law 809 = .ok (.iaload, 1) := by decide +kernel
theorem dL_law_810 : decode cL_law 810 = .ok (.aload_n 0, 1) := by decide +kernel
theorem dL_law_811 : decode cL_law 811 = .ok (.iload_n 3, 1) := by decide +kernel
theorem dL_law_812 : decode cL_law 812 = .ok (.iconst 2, 1) := by decide +kernel
theorem dL_law_813 : decode cL_law 813 = .ok (.iadd, 1) := by decide +kernel
theorem dL_law_814 : decode cL_law 814 = .ok (.iaload, 1) := by decide +kernel
theorem dL_law_815 : decode cL_law 815 = .ok (.aload_n 0, 1) := by decide +kernel
theorem dL_law_816 : decode cL_law 816 = .ok (.iload_n 3, 1) := by decide +kernel
theorem dL_law_817 : decode cL_law 817 = .ok (.iconst 3, 1) := by decide +kernel
theorem dL_law_818 : decode cL_law 818 = .ok (.iadd, 1) := by decide +kernel
theorem dL_law_819 : decode cL_law 819 = .ok (.iaload, 1) := by decide +kernel
theorem dL_law_820 : decode cL_law 820 = .ok (.aload_n 0, 1) := by decide +kernel
theorem dL_law_821 : decode cL_law 821 = .ok (.iload_n 3, 1) := by decide +kernel
theorem dL_law_822 : decode cL_law 822 = .ok (.iconst 4, 1) := by decide +kernel
theorem dL_law_823 : decode cL_law 823 = .ok (.iadd, 1) := by decide +kernel
theorem dL_law_824 : decode cL_law 824 = .ok (.iaload, 1) := by decide +kernel
theorem dL_law_825 : decode cL_law 825 = .ok (.aload_n 0, 1) := by decide +kernel
theorem dL_law_826 : decode cL_law 826 = .ok (.iload_n 3, 1) := by decide +kernel
theorem dL_law_827 : decode cL_law 827 = .ok (.iconst 5, 1) := by decide +kernel
theorem dL_law_828 : decode cL_law 828 = .ok (.iadd, 1) := by decide +kernel
theorem dL_law_829 : decode cL_law 829 = .ok (.iaload, 1) := by decide +kernel
theorem dL_law_830 : decode cL_law 830 = .ok (.invokevirtual 76, 3) := by decide +kernel
theorem dL_law_833 : decode cL_law 833 = .ok (.if_icmp .eq 1509, 3) := by decide +kernel
theorem lw_withdraw (hG : G.2.2.2 3 = (b, Lx, xs)) (hi : i + 9 ≤ Lx) (hLx : Lx ≤ 4608) (h0 : 0 < K.1) (h12 : (K.2.1 0).1 = 12) (hdc : dc + 1 ≤ d) (hdr : dr + 1 ≤ d)
    (hop : OpA n0 xX12_withdraw xX13_withdraw dc dr mc ms [.int (xs (i + 1))] K I L (fun K' I' L' => ZG G n0 xL_law d rc rs 18 [(0, .ref b), (1, .ref (n0 + 0)), (2, .ref (n0 + 59)), (3, .int (nI (i + 9)))] [] K' I' L' Q)) :
    ZH G n0 xL_law d (rc + mc) (rs + ms) 507 [(0, .ref b), (1, .ref (n0 + 0)), (2, .ref (n0 + 59)), (3, .int (nI i))] [] K I L Q := by
  refine yh_aload_n 1 dL_law_507 rfl ?_
  refine yh_aload_n 0 dL_law_508 rfl ?_
  refine yh_iload_n 3 dL_law_509 rfl ?_
  refine yh_iconst 1 dL_law_510 (by decide) ?_
  refine yh_iadd dL_law_511 ?_
  refine yh_sld hG dL_law_512 (law_ix (c := 1) (j := 1) rfl hi hLx (by omega)) ?_
  rw [law_cl (c := 1) (j := 1) rfl hi hLx (by omega)]
  refine yh_callV (rc := rc) (rs := rs) (mc1 := mc) (ms1 := ms) (k := 0) (c := 12) (As := [.int (xs (i + 1))]) dL_law_513 hy_X12_withdraw h0 h12 (by decide) wg_639 wg_640 wg_641 hdc (Nat.le_of_ble_eq_true rfl) (RM.mono hop ?_)
  clear hop
  rintro vv K1 I1 L1 ⟨r, rfl, hop⟩
  change ZH G n0 xL_law d rc rs _ _ [.int r] K1 I1 L1 Q
  refine yh_aload_n 2 dL_law_516 rfl ?_
  refine yh_aload_n 0 dL_law_517 rfl ?_
  refine yh_iload_n 3 dL_law_518 rfl ?_
  refine yh_iconst 1 dL_law_519 (by decide) ?_
  refine yh_iadd dL_law_520 ?_
  refine yh_sld hG dL_law_521 (law_ix (c := 1) (j := 1) rfl hi hLx (by omega)) ?_
  rw [law_cl (c := 1) (j := 1) rfl hi hLx (by omega)]
  refine yh_callM (As := [.int (xs (i + 1))]) (st := [.int r]) dL_law_522 hy_X13_withdraw wg_1842 wg_1843 wg_1844 hdr (Nat.le_of_ble_eq_true rfl) (RM0.mono hop ?_)
  clear hop
  rintro vv I2 L2 ⟨rfl, hP⟩
  change ZH G n0 xL_law d rc rs _ _ [.int r, .int r] K1 I2 L2 Q
  refine yh_icmp_eq 2342 dL_law_525 (by decide) (fun _ => ?_) (fun z => absurd rfl z)
  refine yh_iinc (j := 3) (nI (i + 9)) [1, 2, 3, 0] [(0, .ref b), (1, .ref (n0 + 0)), (2, .ref (n0 + 59)), (3, .int (nI (i + 9)))] dL_law_2342 rfl q_nadd (Nat.le_of_ble_eq_true rfl) rfl ?_
  refine yh_goto 18 dL_law_2345 (by decide) ?_
  exact ZH.ofG hP
theorem lw_feed (hG : G.2.2.2 3 = (b, Lx, xs)) (hi : i + 9 ≤ Lx) (hLx : Lx ≤ 4608) (h0 : 0 < K.1) (h12 : (K.2.1 0).1 = 12) (hdc : dc + 1 ≤ d) (hdr : dr + 1 ≤ d)
    (hop : OpA n0 xX12_feed xX13_feed dc dr mc ms [.int (xs (i + 1)), .long (((xs (i + 2)).toInt64 <<< ((32 : Int32).toInt64 &&& 63)) ||| ((xs (i + 3)).toInt64 &&& 4294967295))] K I L (fun K' I' L' => ZG G n0 xL_law d rc rs 18 [(0, .ref b), (1, .ref (n0 + 0)), (2, .ref (n0 + 59)), (3, .int (nI (i + 9)))] [] K' I' L' Q)) :
    ZH G n0 xL_law d (rc + mc) (rs + ms) 530 [(0, .ref b), (1, .ref (n0 + 0)), (2, .ref (n0 + 59)), (3, .int (nI i))] [] K I L Q := by
  refine yh_aload_n 1 dL_law_530 rfl ?_
  refine yh_aload_n 0 dL_law_531 rfl ?_
  refine yh_iload_n 3 dL_law_532 rfl ?_
  refine yh_iconst 1 dL_law_533 (by decide) ?_
  refine yh_iadd dL_law_534 ?_
  refine yh_sld hG dL_law_535 (law_ix (c := 1) (j := 1) rfl hi hLx (by omega)) ?_
  rw [law_cl (c := 1) (j := 1) rfl hi hLx (by omega)]
  refine yh_aload_n 0 dL_law_536 rfl ?_
  refine yh_iload_n 3 dL_law_537 rfl ?_
  refine yh_iconst 2 dL_law_538 (by decide) ?_
  refine yh_iadd dL_law_539 ?_
  refine yh_sld hG dL_law_540 (law_ix (c := 2) (j := 2) rfl hi hLx (by omega)) ?_
  rw [law_cl (c := 2) (j := 2) rfl hi hLx (by omega)]
  refine yh_i2l dL_law_541 ?_
  refine yh_bipush 32 dL_law_542 (by decide) ?_
  refine yh_lshl dL_law_544 ?_
  refine yh_aload_n 0 dL_law_545 rfl ?_
  refine yh_iload_n 3 dL_law_546 rfl ?_
  refine yh_iconst 3 dL_law_547 (by decide) ?_
  refine yh_iadd dL_law_548 ?_
  refine yh_sld hG dL_law_549 (law_ix (c := 3) (j := 3) rfl hi hLx (by omega)) ?_
  rw [law_cl (c := 3) (j := 3) rfl hi hLx (by omega)]
  refine yh_i2l dL_law_550 ?_
  refine yh_ldc2_w 4294967295 dL_law_551 wg_2241 ?_
  refine yh_land dL_law_554 ?_
  refine yh_lor dL_law_555 ?_
  refine yh_callV (rc := rc) (rs := rs) (mc1 := mc) (ms1 := ms) (k := 0) (c := 12) (As := [.int (xs (i + 1)), .long (((xs (i + 2)).toInt64 <<< ((32 : Int32).toInt64 &&& 63)) ||| ((xs (i + 3)).toInt64 &&& 4294967295))]) dL_law_556 hy_X12_feed h0 h12 (by decide) wg_643 wg_644 wg_645 hdc (Nat.le_of_ble_eq_true rfl) (RM.mono hop ?_)
  clear hop
  rintro vv K1 I1 L1 ⟨r, rfl, hop⟩
  change ZH G n0 xL_law d rc rs _ _ [.int r] K1 I1 L1 Q
  refine yh_aload_n 2 dL_law_559 rfl ?_
  refine yh_aload_n 0 dL_law_560 rfl ?_
  refine yh_iload_n 3 dL_law_561 rfl ?_
  refine yh_iconst 1 dL_law_562 (by decide) ?_
  refine yh_iadd dL_law_563 ?_
  refine yh_sld hG dL_law_564 (law_ix (c := 1) (j := 1) rfl hi hLx (by omega)) ?_
  rw [law_cl (c := 1) (j := 1) rfl hi hLx (by omega)]
  refine yh_aload_n 0 dL_law_565 rfl ?_
  refine yh_iload_n 3 dL_law_566 rfl ?_
  refine yh_iconst 2 dL_law_567 (by decide) ?_
  refine yh_iadd dL_law_568 ?_
  refine yh_sld hG dL_law_569 (law_ix (c := 2) (j := 2) rfl hi hLx (by omega)) ?_
  rw [law_cl (c := 2) (j := 2) rfl hi hLx (by omega)]
  refine yh_i2l dL_law_570 ?_
  refine yh_bipush 32 dL_law_571 (by decide) ?_
  refine yh_lshl dL_law_573 ?_
  refine yh_aload_n 0 dL_law_574 rfl ?_
  refine yh_iload_n 3 dL_law_575 rfl ?_
  refine yh_iconst 3 dL_law_576 (by decide) ?_
  refine yh_iadd dL_law_577 ?_
  refine yh_sld hG dL_law_578 (law_ix (c := 3) (j := 3) rfl hi hLx (by omega)) ?_
  rw [law_cl (c := 3) (j := 3) rfl hi hLx (by omega)]
  refine yh_i2l dL_law_579 ?_
  refine yh_ldc2_w 4294967295 dL_law_580 wg_2241 ?_
  refine yh_land dL_law_583 ?_
  refine yh_lor dL_law_584 ?_
  refine yh_callM (As := [.int (xs (i + 1)), .long (((xs (i + 2)).toInt64 <<< ((32 : Int32).toInt64 &&& 63)) ||| ((xs (i + 3)).toInt64 &&& 4294967295))]) (st := [.int r]) dL_law_585 hy_X13_feed wg_1846 wg_1847 wg_1848 hdr (Nat.le_of_ble_eq_true rfl) (RM0.mono hop ?_)
  clear hop
  rintro vv I2 L2 ⟨rfl, hP⟩
  change ZH G n0 xL_law d rc rs _ _ [.int r, .int r] K1 I2 L2 Q
  refine yh_icmp_eq 2342 dL_law_588 (by decide) (fun _ => ?_) (fun z => absurd rfl z)
  refine yh_iinc (j := 3) (nI (i + 9)) [1, 2, 3, 0] [(0, .ref b), (1, .ref (n0 + 0)), (2, .ref (n0 + 59)), (3, .int (nI (i + 9)))] dL_law_2342 rfl q_nadd (Nat.le_of_ble_eq_true rfl) rfl ?_
  refine yh_goto 18 dL_law_2345 (by decide) ?_
  exact ZH.ofG hP
theorem lw_rule (hG : G.2.2.2 3 = (b, Lx, xs)) (hi : i + 9 ≤ Lx) (hLx : Lx ≤ 4608) (h0 : 0 < K.1) (h12 : (K.2.1 0).1 = 12) (hdc : dc + 1 ≤ d) (hdr : dr + 1 ≤ d)
    (hop : OpA n0 xX12_rule xX13_rule dc dr mc ms [.int (xs (i + 1)), .int (xs (i + 2)), .int (xs (i + 3))] K I L (fun K' I' L' => ZG G n0 xL_law d rc rs 18 [(0, .ref b), (1, .ref (n0 + 0)), (2, .ref (n0 + 59)), (3, .int (nI (i + 9)))] [] K' I' L' Q)) :
    ZH G n0 xL_law d (rc + mc) (rs + ms) 593 [(0, .ref b), (1, .ref (n0 + 0)), (2, .ref (n0 + 59)), (3, .int (nI i))] [] K I L Q := by
  refine yh_aload_n 1 dL_law_593 rfl ?_
  refine yh_aload_n 0 dL_law_594 rfl ?_
  refine yh_iload_n 3 dL_law_595 rfl ?_
  refine yh_iconst 1 dL_law_596 (by decide) ?_
  refine yh_iadd dL_law_597 ?_
  refine yh_sld hG dL_law_598 (law_ix (c := 1) (j := 1) rfl hi hLx (by omega)) ?_
  rw [law_cl (c := 1) (j := 1) rfl hi hLx (by omega)]
  refine yh_aload_n 0 dL_law_599 rfl ?_
  refine yh_iload_n 3 dL_law_600 rfl ?_
  refine yh_iconst 2 dL_law_601 (by decide) ?_
  refine yh_iadd dL_law_602 ?_
  refine yh_sld hG dL_law_603 (law_ix (c := 2) (j := 2) rfl hi hLx (by omega)) ?_
  rw [law_cl (c := 2) (j := 2) rfl hi hLx (by omega)]
  refine yh_aload_n 0 dL_law_604 rfl ?_
  refine yh_iload_n 3 dL_law_605 rfl ?_
  refine yh_iconst 3 dL_law_606 (by decide) ?_
  refine yh_iadd dL_law_607 ?_
  refine yh_sld hG dL_law_608 (law_ix (c := 3) (j := 3) rfl hi hLx (by omega)) ?_
  rw [law_cl (c := 3) (j := 3) rfl hi hLx (by omega)]
  refine yh_callV (rc := rc) (rs := rs) (mc1 := mc) (ms1 := ms) (k := 0) (c := 12) (As := [.int (xs (i + 1)), .int (xs (i + 2)), .int (xs (i + 3))]) dL_law_609 hy_X12_rule h0 h12 (by decide) wg_651 wg_652 wg_653 hdc (Nat.le_of_ble_eq_true rfl) (RM.mono hop ?_)
  clear hop
  rintro vv K1 I1 L1 ⟨r, rfl, hop⟩
  change ZH G n0 xL_law d rc rs _ _ [.int r] K1 I1 L1 Q
  refine yh_aload_n 2 dL_law_612 rfl ?_
  refine yh_aload_n 0 dL_law_613 rfl ?_
  refine yh_iload_n 3 dL_law_614 rfl ?_
  refine yh_iconst 1 dL_law_615 (by decide) ?_
  refine yh_iadd dL_law_616 ?_
  refine yh_sld hG dL_law_617 (law_ix (c := 1) (j := 1) rfl hi hLx (by omega)) ?_
  rw [law_cl (c := 1) (j := 1) rfl hi hLx (by omega)]
  refine yh_aload_n 0 dL_law_618 rfl ?_
  refine yh_iload_n 3 dL_law_619 rfl ?_
  refine yh_iconst 2 dL_law_620 (by decide) ?_
  refine yh_iadd dL_law_621 ?_
  refine yh_sld hG dL_law_622 (law_ix (c := 2) (j := 2) rfl hi hLx (by omega)) ?_
  rw [law_cl (c := 2) (j := 2) rfl hi hLx (by omega)]
  refine yh_aload_n 0 dL_law_623 rfl ?_
  refine yh_iload_n 3 dL_law_624 rfl ?_
  refine yh_iconst 3 dL_law_625 (by decide) ?_
  refine yh_iadd dL_law_626 ?_
  refine yh_sld hG dL_law_627 (law_ix (c := 3) (j := 3) rfl hi hLx (by omega)) ?_
  rw [law_cl (c := 3) (j := 3) rfl hi hLx (by omega)]
  refine yh_callM (As := [.int (xs (i + 1)), .int (xs (i + 2)), .int (xs (i + 3))]) (st := [.int r]) dL_law_628 hy_X13_rule wg_1851 wg_1852 wg_1853 hdr (Nat.le_of_ble_eq_true rfl) (RM0.mono hop ?_)
  clear hop
  rintro vv I2 L2 ⟨rfl, hP⟩
  change ZH G n0 xL_law d rc rs _ _ [.int r, .int r] K1 I2 L2 Q
  refine yh_icmp_eq 2342 dL_law_631 (by decide) (fun _ => ?_) (fun z => absurd rfl z)
  refine yh_iinc (j := 3) (nI (i + 9)) [1, 2, 3, 0] [(0, .ref b), (1, .ref (n0 + 0)), (2, .ref (n0 + 59)), (3, .int (nI (i + 9)))] dL_law_2342 rfl q_nadd (Nat.le_of_ble_eq_true rfl) rfl ?_
  refine yh_goto 18 dL_law_2345 (by decide) ?_
  exact ZH.ofG hP
theorem lw_quarrel (hG : G.2.2.2 3 = (b, Lx, xs)) (hi : i + 9 ≤ Lx) (hLx : Lx ≤ 4608) (h0 : 0 < K.1) (h12 : (K.2.1 0).1 = 12) (hdc : dc + 1 ≤ d) (hdr : dr + 1 ≤ d)
    (hop : OpA n0 xX12_quarrel xX13_quarrel dc dr mc ms [.int (xs (i + 1)), .int (xs (i + 2)), .int (xs (i + 3))] K I L (fun K' I' L' => ZG G n0 xL_law d rc rs 18 [(0, .ref b), (1, .ref (n0 + 0)), (2, .ref (n0 + 59)), (3, .int (nI (i + 9)))] [] K' I' L' Q)) :
    ZH G n0 xL_law d (rc + mc) (rs + ms) 636 [(0, .ref b), (1, .ref (n0 + 0)), (2, .ref (n0 + 59)), (3, .int (nI i))] [] K I L Q := by
  refine yh_aload_n 1 dL_law_636 rfl ?_
  refine yh_aload_n 0 dL_law_637 rfl ?_
  refine yh_iload_n 3 dL_law_638 rfl ?_
  refine yh_iconst 1 dL_law_639 (by decide) ?_
  refine yh_iadd dL_law_640 ?_
  refine yh_sld hG dL_law_641 (law_ix (c := 1) (j := 1) rfl hi hLx (by omega)) ?_
  rw [law_cl (c := 1) (j := 1) rfl hi hLx (by omega)]
  refine yh_aload_n 0 dL_law_642 rfl ?_
  refine yh_iload_n 3 dL_law_643 rfl ?_
  refine yh_iconst 2 dL_law_644 (by decide) ?_
  refine yh_iadd dL_law_645 ?_
  refine yh_sld hG dL_law_646 (law_ix (c := 2) (j := 2) rfl hi hLx (by omega)) ?_
  rw [law_cl (c := 2) (j := 2) rfl hi hLx (by omega)]
  refine yh_aload_n 0 dL_law_647 rfl ?_
  refine yh_iload_n 3 dL_law_648 rfl ?_
  refine yh_iconst 3 dL_law_649 (by decide) ?_
  refine yh_iadd dL_law_650 ?_
  refine yh_sld hG dL_law_651 (law_ix (c := 3) (j := 3) rfl hi hLx (by omega)) ?_
  rw [law_cl (c := 3) (j := 3) rfl hi hLx (by omega)]
  refine yh_callV (rc := rc) (rs := rs) (mc1 := mc) (ms1 := ms) (k := 0) (c := 12) (As := [.int (xs (i + 1)), .int (xs (i + 2)), .int (xs (i + 3))]) dL_law_652 hy_X12_quarrel h0 h12 (by decide) wg_754 wg_755 wg_756 hdc (Nat.le_of_ble_eq_true rfl) (RM.mono hop ?_)
  clear hop
  rintro vv K1 I1 L1 ⟨r, rfl, hop⟩
  change ZH G n0 xL_law d rc rs _ _ [.int r] K1 I1 L1 Q
  refine yh_aload_n 2 dL_law_655 rfl ?_
  refine yh_aload_n 0 dL_law_656 rfl ?_
  refine yh_iload_n 3 dL_law_657 rfl ?_
  refine yh_iconst 1 dL_law_658 (by decide) ?_
  refine yh_iadd dL_law_659 ?_
  refine yh_sld hG dL_law_660 (law_ix (c := 1) (j := 1) rfl hi hLx (by omega)) ?_
  rw [law_cl (c := 1) (j := 1) rfl hi hLx (by omega)]
  refine yh_aload_n 0 dL_law_661 rfl ?_
  refine yh_iload_n 3 dL_law_662 rfl ?_
  refine yh_iconst 2 dL_law_663 (by decide) ?_
  refine yh_iadd dL_law_664 ?_
  refine yh_sld hG dL_law_665 (law_ix (c := 2) (j := 2) rfl hi hLx (by omega)) ?_
  rw [law_cl (c := 2) (j := 2) rfl hi hLx (by omega)]
  refine yh_aload_n 0 dL_law_666 rfl ?_
  refine yh_iload_n 3 dL_law_667 rfl ?_
  refine yh_iconst 3 dL_law_668 (by decide) ?_
  refine yh_iadd dL_law_669 ?_
  refine yh_sld hG dL_law_670 (law_ix (c := 3) (j := 3) rfl hi hLx (by omega)) ?_
  rw [law_cl (c := 3) (j := 3) rfl hi hLx (by omega)]
  refine yh_callM (As := [.int (xs (i + 1)), .int (xs (i + 2)), .int (xs (i + 3))]) (st := [.int r]) dL_law_671 hy_X13_quarrel wg_1914 wg_1915 wg_1916 hdr (Nat.le_of_ble_eq_true rfl) (RM0.mono hop ?_)
  clear hop
  rintro vv I2 L2 ⟨rfl, hP⟩
  change ZH G n0 xL_law d rc rs _ _ [.int r, .int r] K1 I2 L2 Q
  refine yh_icmp_eq 2342 dL_law_674 (by decide) (fun _ => ?_) (fun z => absurd rfl z)
  refine yh_iinc (j := 3) (nI (i + 9)) [1, 2, 3, 0] [(0, .ref b), (1, .ref (n0 + 0)), (2, .ref (n0 + 59)), (3, .int (nI (i + 9)))] dL_law_2342 rfl q_nadd (Nat.le_of_ble_eq_true rfl) rfl ?_
  refine yh_goto 18 dL_law_2345 (by decide) ?_
  exact ZH.ofG hP
theorem lw_from (hG : G.2.2.2 3 = (b, Lx, xs)) (hi : i + 9 ≤ Lx) (hLx : Lx ≤ 4608) (h0 : 0 < K.1) (h12 : (K.2.1 0).1 = 12) (hdc : dc + 1 ≤ d) (hdr : dr + 1 ≤ d)
    (hop : OpA n0 xX12_from xX13_from dc dr mc ms [.int (xs (i + 1)), .int (xs (i + 2)), .int (xs (i + 3))] K I L (fun K' I' L' => ZG G n0 xL_law d rc rs 18 [(0, .ref b), (1, .ref (n0 + 0)), (2, .ref (n0 + 59)), (3, .int (nI (i + 9)))] [] K' I' L' Q)) :
    ZH G n0 xL_law d (rc + mc) (rs + ms) 679 [(0, .ref b), (1, .ref (n0 + 0)), (2, .ref (n0 + 59)), (3, .int (nI i))] [] K I L Q := by
  refine yh_aload_n 1 dL_law_679 rfl ?_
  refine yh_aload_n 0 dL_law_680 rfl ?_
  refine yh_iload_n 3 dL_law_681 rfl ?_
  refine yh_iconst 1 dL_law_682 (by decide) ?_
  refine yh_iadd dL_law_683 ?_
  refine yh_sld hG dL_law_684 (law_ix (c := 1) (j := 1) rfl hi hLx (by omega)) ?_
  rw [law_cl (c := 1) (j := 1) rfl hi hLx (by omega)]
  refine yh_aload_n 0 dL_law_685 rfl ?_
  refine yh_iload_n 3 dL_law_686 rfl ?_
  refine yh_iconst 2 dL_law_687 (by decide) ?_
  refine yh_iadd dL_law_688 ?_
  refine yh_sld hG dL_law_689 (law_ix (c := 2) (j := 2) rfl hi hLx (by omega)) ?_
  rw [law_cl (c := 2) (j := 2) rfl hi hLx (by omega)]
  refine yh_aload_n 0 dL_law_690 rfl ?_
  refine yh_iload_n 3 dL_law_691 rfl ?_
  refine yh_iconst 3 dL_law_692 (by decide) ?_
  refine yh_iadd dL_law_693 ?_
  refine yh_sld hG dL_law_694 (law_ix (c := 3) (j := 3) rfl hi hLx (by omega)) ?_
  rw [law_cl (c := 3) (j := 3) rfl hi hLx (by omega)]
  refine yh_callV (rc := rc) (rs := rs) (mc1 := mc) (ms1 := ms) (k := 0) (c := 12) (As := [.int (xs (i + 1)), .int (xs (i + 2)), .int (xs (i + 3))]) dL_law_695 hy_X12_from h0 h12 (by decide) wg_766 wg_767 wg_768 hdc (Nat.le_of_ble_eq_true rfl) (RM.mono hop ?_)
  clear hop
  rintro vv K1 I1 L1 ⟨r, rfl, hop⟩
  change ZH G n0 xL_law d rc rs _ _ [.int r] K1 I1 L1 Q
  refine yh_aload_n 2 dL_law_698 rfl ?_
  refine yh_aload_n 0 dL_law_699 rfl ?_
  refine yh_iload_n 3 dL_law_700 rfl ?_
  refine yh_iconst 1 dL_law_701 (by decide) ?_
  refine yh_iadd dL_law_702 ?_
  refine yh_sld hG dL_law_703 (law_ix (c := 1) (j := 1) rfl hi hLx (by omega)) ?_
  rw [law_cl (c := 1) (j := 1) rfl hi hLx (by omega)]
  refine yh_aload_n 0 dL_law_704 rfl ?_
  refine yh_iload_n 3 dL_law_705 rfl ?_
  refine yh_iconst 2 dL_law_706 (by decide) ?_
  refine yh_iadd dL_law_707 ?_
  refine yh_sld hG dL_law_708 (law_ix (c := 2) (j := 2) rfl hi hLx (by omega)) ?_
  rw [law_cl (c := 2) (j := 2) rfl hi hLx (by omega)]
  refine yh_aload_n 0 dL_law_709 rfl ?_
  refine yh_iload_n 3 dL_law_710 rfl ?_
  refine yh_iconst 3 dL_law_711 (by decide) ?_
  refine yh_iadd dL_law_712 ?_
  refine yh_sld hG dL_law_713 (law_ix (c := 3) (j := 3) rfl hi hLx (by omega)) ?_
  rw [law_cl (c := 3) (j := 3) rfl hi hLx (by omega)]
  refine yh_callM (As := [.int (xs (i + 1)), .int (xs (i + 2)), .int (xs (i + 3))]) (st := [.int r]) dL_law_714 hy_X13_from wg_1926 wg_1927 wg_1928 hdr (Nat.le_of_ble_eq_true rfl) (RM0.mono hop ?_)
  clear hop
  rintro vv I2 L2 ⟨rfl, hP⟩
  change ZH G n0 xL_law d rc rs _ _ [.int r, .int r] K1 I2 L2 Q
  refine yh_icmp_eq 2342 dL_law_717 (by decide) (fun _ => ?_) (fun z => absurd rfl z)
  refine yh_iinc (j := 3) (nI (i + 9)) [1, 2, 3, 0] [(0, .ref b), (1, .ref (n0 + 0)), (2, .ref (n0 + 59)), (3, .int (nI (i + 9)))] dL_law_2342 rfl q_nadd (Nat.le_of_ble_eq_true rfl) rfl ?_
  refine yh_goto 18 dL_law_2345 (by decide) ?_
  exact ZH.ofG hP
theorem lw_grade (hG : G.2.2.2 3 = (b, Lx, xs)) (hi : i + 9 ≤ Lx) (hLx : Lx ≤ 4608) (h0 : 0 < K.1) (h12 : (K.2.1 0).1 = 12) (hdc : dc + 1 ≤ d) (hdr : dr + 1 ≤ d)
    (hop : OpA n0 xX12_grade xX13_grade dc dr mc ms [.int (xs (i + 1)), .int (xs (i + 2)), .int (xs (i + 3)), .int (xs (i + 4))] K I L (fun K' I' L' => ZG G n0 xL_law d rc rs 18 [(0, .ref b), (1, .ref (n0 + 0)), (2, .ref (n0 + 59)), (3, .int (nI (i + 9)))] [] K' I' L' Q)) :
    ZH G n0 xL_law d (rc + mc) (rs + ms) 722 [(0, .ref b), (1, .ref (n0 + 0)), (2, .ref (n0 + 59)), (3, .int (nI i))] [] K I L Q := by
  refine yh_aload_n 1 dL_law_722 rfl ?_
  refine yh_aload_n 0 dL_law_723 rfl ?_
  refine yh_iload_n 3 dL_law_724 rfl ?_
  refine yh_iconst 1 dL_law_725 (by decide) ?_
  refine yh_iadd dL_law_726 ?_
  refine yh_sld hG dL_law_727 (law_ix (c := 1) (j := 1) rfl hi hLx (by omega)) ?_
  rw [law_cl (c := 1) (j := 1) rfl hi hLx (by omega)]
  refine yh_aload_n 0 dL_law_728 rfl ?_
  refine yh_iload_n 3 dL_law_729 rfl ?_
  refine yh_iconst 2 dL_law_730 (by decide) ?_
  refine yh_iadd dL_law_731 ?_
  refine yh_sld hG dL_law_732 (law_ix (c := 2) (j := 2) rfl hi hLx (by omega)) ?_
  rw [law_cl (c := 2) (j := 2) rfl hi hLx (by omega)]
  refine yh_aload_n 0 dL_law_733 rfl ?_
  refine yh_iload_n 3 dL_law_734 rfl ?_
  refine yh_iconst 3 dL_law_735 (by decide) ?_
  refine yh_iadd dL_law_736 ?_
  refine yh_sld hG dL_law_737 (law_ix (c := 3) (j := 3) rfl hi hLx (by omega)) ?_
  rw [law_cl (c := 3) (j := 3) rfl hi hLx (by omega)]
  refine yh_aload_n 0 dL_law_738 rfl ?_
  refine yh_iload_n 3 dL_law_739 rfl ?_
  refine yh_iconst 4 dL_law_740 (by decide) ?_
  refine yh_iadd dL_law_741 ?_
  refine yh_sld hG dL_law_742 (law_ix (c := 4) (j := 4) rfl hi hLx (by omega)) ?_
  rw [law_cl (c := 4) (j := 4) rfl hi hLx (by omega)]
  refine yh_callV (rc := rc) (rs := rs) (mc1 := mc) (ms1 := ms) (k := 0) (c := 12) (As := [.int (xs (i + 1)), .int (xs (i + 2)), .int (xs (i + 3)), .int (xs (i + 4))]) dL_law_743 hy_X12_grade h0 h12 (by decide) wg_789 wg_790 wg_791 hdc (Nat.le_of_ble_eq_true rfl) (RM.mono hop ?_)
  clear hop
  rintro vv K1 I1 L1 ⟨r, rfl, hop⟩
  change ZH G n0 xL_law d rc rs _ _ [.int r] K1 I1 L1 Q
  refine yh_aload_n 2 dL_law_746 rfl ?_
  refine yh_aload_n 0 dL_law_747 rfl ?_
  refine yh_iload_n 3 dL_law_748 rfl ?_
  refine yh_iconst 1 dL_law_749 (by decide) ?_
  refine yh_iadd dL_law_750 ?_
  refine yh_sld hG dL_law_751 (law_ix (c := 1) (j := 1) rfl hi hLx (by omega)) ?_
  rw [law_cl (c := 1) (j := 1) rfl hi hLx (by omega)]
  refine yh_aload_n 0 dL_law_752 rfl ?_
  refine yh_iload_n 3 dL_law_753 rfl ?_
  refine yh_iconst 2 dL_law_754 (by decide) ?_
  refine yh_iadd dL_law_755 ?_
  refine yh_sld hG dL_law_756 (law_ix (c := 2) (j := 2) rfl hi hLx (by omega)) ?_
  rw [law_cl (c := 2) (j := 2) rfl hi hLx (by omega)]
  refine yh_aload_n 0 dL_law_757 rfl ?_
  refine yh_iload_n 3 dL_law_758 rfl ?_
  refine yh_iconst 3 dL_law_759 (by decide) ?_
  refine yh_iadd dL_law_760 ?_
  refine yh_sld hG dL_law_761 (law_ix (c := 3) (j := 3) rfl hi hLx (by omega)) ?_
  rw [law_cl (c := 3) (j := 3) rfl hi hLx (by omega)]
  refine yh_aload_n 0 dL_law_762 rfl ?_
  refine yh_iload_n 3 dL_law_763 rfl ?_
  refine yh_iconst 4 dL_law_764 (by decide) ?_
  refine yh_iadd dL_law_765 ?_
  refine yh_sld hG dL_law_766 (law_ix (c := 4) (j := 4) rfl hi hLx (by omega)) ?_
  rw [law_cl (c := 4) (j := 4) rfl hi hLx (by omega)]
  refine yh_callM (As := [.int (xs (i + 1)), .int (xs (i + 2)), .int (xs (i + 3)), .int (xs (i + 4))]) (st := [.int r]) dL_law_767 hy_X13_grade wg_1934 wg_1935 wg_1936 hdr (Nat.le_of_ble_eq_true rfl) (RM0.mono hop ?_)
  clear hop
  rintro vv I2 L2 ⟨rfl, hP⟩
  change ZH G n0 xL_law d rc rs _ _ [.int r, .int r] K1 I2 L2 Q
  refine yh_icmp_eq 2342 dL_law_770 (by decide) (fun _ => ?_) (fun z => absurd rfl z)
  refine yh_iinc (j := 3) (nI (i + 9)) [1, 2, 3, 0] [(0, .ref b), (1, .ref (n0 + 0)), (2, .ref (n0 + 59)), (3, .int (nI (i + 9)))] dL_law_2342 rfl q_nadd (Nat.le_of_ble_eq_true rfl) rfl ?_
  refine yh_goto 18 dL_law_2345 (by decide) ?_
  exact ZH.ofG hP
theorem lw_alter (hG : G.2.2.2 3 = (b, Lx, xs)) (hi : i + 9 ≤ Lx) (hLx : Lx ≤ 4608) (h0 : 0 < K.1) (h12 : (K.2.1 0).1 = 12) (hdc : dc + 1 ≤ d) (hdr : dr + 1 ≤ d)
    (hop : OpA n0 xX12_alter xX13_alter dc dr mc ms [.int (xs (i + 1)), .int (xs (i + 2)), .int (xs (i + 3)), .int (xs (i + 4)), .int (xs (i + 5))] K I L (fun K' I' L' => ZG G n0 xL_law d rc rs 18 [(0, .ref b), (1, .ref (n0 + 0)), (2, .ref (n0 + 59)), (3, .int (nI (i + 9)))] [] K' I' L' Q)) :
    ZH G n0 xL_law d (rc + mc) (rs + ms) 775 [(0, .ref b), (1, .ref (n0 + 0)), (2, .ref (n0 + 59)), (3, .int (nI i))] [] K I L Q := by
  refine yh_aload_n 1 dL_law_775 rfl ?_
  refine yh_aload_n 0 dL_law_776 rfl ?_
  refine yh_iload_n 3 dL_law_777 rfl ?_
  refine yh_iconst 1 dL_law_778 (by decide) ?_
  refine yh_iadd dL_law_779 ?_
  refine yh_sld hG dL_law_780 (law_ix (c := 1) (j := 1) rfl hi hLx (by omega)) ?_
  rw [law_cl (c := 1) (j := 1) rfl hi hLx (by omega)]
  refine yh_aload_n 0 dL_law_781 rfl ?_
  refine yh_iload_n 3 dL_law_782 rfl ?_
  refine yh_iconst 2 dL_law_783 (by decide) ?_
  refine yh_iadd dL_law_784 ?_
  refine yh_sld hG dL_law_785 (law_ix (c := 2) (j := 2) rfl hi hLx (by omega)) ?_
  rw [law_cl (c := 2) (j := 2) rfl hi hLx (by omega)]
  refine yh_aload_n 0 dL_law_786 rfl ?_
  refine yh_iload_n 3 dL_law_787 rfl ?_
  refine yh_iconst 3 dL_law_788 (by decide) ?_
  refine yh_iadd dL_law_789 ?_
  refine yh_sld hG dL_law_790 (law_ix (c := 3) (j := 3) rfl hi hLx (by omega)) ?_
  rw [law_cl (c := 3) (j := 3) rfl hi hLx (by omega)]
  refine yh_aload_n 0 dL_law_791 rfl ?_
  refine yh_iload_n 3 dL_law_792 rfl ?_
  refine yh_iconst 4 dL_law_793 (by decide) ?_
  refine yh_iadd dL_law_794 ?_
  refine yh_sld hG dL_law_795 (law_ix (c := 4) (j := 4) rfl hi hLx (by omega)) ?_
  rw [law_cl (c := 4) (j := 4) rfl hi hLx (by omega)]
  refine yh_aload_n 0 dL_law_796 rfl ?_
  refine yh_iload_n 3 dL_law_797 rfl ?_
  refine yh_iconst 5 dL_law_798 (by decide) ?_
  refine yh_iadd dL_law_799 ?_
  refine yh_sld hG dL_law_800 (law_ix (c := 5) (j := 5) rfl hi hLx (by omega)) ?_
  rw [law_cl (c := 5) (j := 5) rfl hi hLx (by omega)]
  refine yh_callV (rc := rc) (rs := rs) (mc1 := mc) (ms1 := ms) (k := 0) (c := 12) (As := [.int (xs (i + 1)), .int (xs (i + 2)), .int (xs (i + 3)), .int (xs (i + 4)), .int (xs (i + 5))]) dL_law_801 hy_X12_alter h0 h12 (by decide) wg_800 wg_801 wg_802 hdc (Nat.le_of_ble_eq_true rfl) (RM.mono hop ?_)
  clear hop
  rintro vv K1 I1 L1 ⟨r, rfl, hop⟩
  change ZH G n0 xL_law d rc rs _ _ [.int r] K1 I1 L1 Q
  refine yh_aload_n 2 dL_law_804 rfl ?_
  refine yh_aload_n 0 dL_law_805 rfl ?_
  refine yh_iload_n 3 dL_law_806 rfl ?_
  refine yh_iconst 1 dL_law_807 (by decide) ?_
  refine yh_iadd dL_law_808 ?_
  refine yh_sld hG dL_law_809 (law_ix (c := 1) (j := 1) rfl hi hLx (by omega)) ?_
  rw [law_cl (c := 1) (j := 1) rfl hi hLx (by omega)]
  refine yh_aload_n 0 dL_law_810 rfl ?_
  refine yh_iload_n 3 dL_law_811 rfl ?_
  refine yh_iconst 2 dL_law_812 (by decide) ?_
  refine yh_iadd dL_law_813 ?_
  refine yh_sld hG dL_law_814 (law_ix (c := 2) (j := 2) rfl hi hLx (by omega)) ?_
  rw [law_cl (c := 2) (j := 2) rfl hi hLx (by omega)]
  refine yh_aload_n 0 dL_law_815 rfl ?_
  refine yh_iload_n 3 dL_law_816 rfl ?_
  refine yh_iconst 3 dL_law_817 (by decide) ?_
  refine yh_iadd dL_law_818 ?_
  refine yh_sld hG dL_law_819 (law_ix (c := 3) (j := 3) rfl hi hLx (by omega)) ?_
  rw [law_cl (c := 3) (j := 3) rfl hi hLx (by omega)]
  refine yh_aload_n 0 dL_law_820 rfl ?_
  refine yh_iload_n 3 dL_law_821 rfl ?_
  refine yh_iconst 4 dL_law_822 (by decide) ?_
  refine yh_iadd dL_law_823 ?_
  refine yh_sld hG dL_law_824 (law_ix (c := 4) (j := 4) rfl hi hLx (by omega)) ?_
  rw [law_cl (c := 4) (j := 4) rfl hi hLx (by omega)]
  refine yh_aload_n 0 dL_law_825 rfl ?_
  refine yh_iload_n 3 dL_law_826 rfl ?_
  refine yh_iconst 5 dL_law_827 (by decide) ?_
  refine yh_iadd dL_law_828 ?_
  refine yh_sld hG dL_law_829 (law_ix (c := 5) (j := 5) rfl hi hLx (by omega)) ?_
  rw [law_cl (c := 5) (j := 5) rfl hi hLx (by omega)]
  refine yh_callM (As := [.int (xs (i + 1)), .int (xs (i + 2)), .int (xs (i + 3)), .int (xs (i + 4)), .int (xs (i + 5))]) (st := [.int r]) dL_law_830 hy_X13_alter wg_1938 wg_1939 wg_1940 hdr (Nat.le_of_ble_eq_true rfl) (RM0.mono hop ?_)
  clear hop
  rintro vv I2 L2 ⟨rfl, hP⟩
  change ZH G n0 xL_law d rc rs _ _ [.int r, .int r] K1 I2 L2 Q
  refine yh_icmp_eq 2342 dL_law_833 (by decide) (fun _ => ?_) (fun z => absurd rfl z)
  refine yh_iinc (j := 3) (nI (i + 9)) [1, 2, 3, 0] [(0, .ref b), (1, .ref (n0 + 0)), (2, .ref (n0 + 59)), (3, .int (nI (i + 9)))] dL_law_2342 rfl q_nadd (Nat.le_of_ble_eq_true rfl) rfl ?_
  refine yh_goto 18 dL_law_2345 (by decide) ?_
  exact ZH.ofG hP
end LAWC
