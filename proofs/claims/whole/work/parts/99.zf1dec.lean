theorem dL_486 : decode code 486 = .ok (.iconst 3, 1) := by decide +kernel
theorem dL_487 : decode code 487 = .ok (.iadd, 1) := by decide +kernel
theorem dL_488 : decode code 488 = .ok (.iaload, 1) := by decide +kernel
theorem dL_489 : decode code 489 = .ok (.aload_n 0, 1) := by decide +kernel
theorem dL_490 : decode code 490 = .ok (.iload_n 3, 1) := by decide +kernel
theorem dL_491 : decode code 491 = .ok (.iconst 4, 1) := by decide +kernel
theorem dL_492 : decode code 492 = .ok (.iadd, 1) := by decide +kernel
theorem dL_493 : decode code 493 = .ok (.iaload, 1) := by decide +kernel
theorem dL_494 : decode code 494 = .ok (.aload_n 0, 1) := by decide +kernel
theorem dL_495 : decode code 495 = .ok (.iload_n 3, 1) := by decide +kernel
theorem dL_496 : decode code 496 = .ok (.iconst 5, 1) := by decide +kernel
theorem dL_497 : decode code 497 = .ok (.iadd, 1) := by decide +kernel
theorem dL_498 : decode code 498 = .ok (.iaload, 1) := by decide +kernel
theorem dL_499 : decode code 499 = .ok (.invokevirtual 43, 3) := by decide +kernel
theorem dL_502 : decode code 502 = .ok (.aload_n 2, 1) := by decide +kernel
theorem dL_503 : decode code 503 = .ok (.aload_n 0, 1) := by decide +kernel
theorem dL_504 : decode code 504 = .ok (.iload_n 3, 1) := by decide +kernel
theorem dL_505 : decode code 505 = .ok (.iconst 1, 1) := by decide +kernel
theorem dL_506 : decode code 506 = .ok (.iadd, 1) := by decide +kernel
theorem dL_507 : decode code 507 = .ok (.iaload, 1) := by decide +kernel
theorem dL_508 : decode code 508 = .ok (.aload_n 0, 1) := by decide +kernel
theorem dL_509 : decode code 509 = .ok (.iload_n 3, 1) := by decide +kernel
theorem dL_510 : decode code 510 = .ok (.iconst 2, 1) := by decide +kernel
theorem dL_511 : decode code 511 = .ok (.iadd, 1) := by decide +kernel
theorem dL_512 : decode code 512 = .ok (.iaload, 1) := by decide +kernel
theorem dL_513 : decode code 513 = .ok (.aload_n 0, 1) := by decide +kernel
theorem dL_514 : decode code 514 = .ok (.iload_n 3, 1) := by decide +kernel
theorem dL_515 : decode code 515 = .ok (.iconst 3, 1) := by decide +kernel
theorem dL_516 : decode code 516 = .ok (.iadd, 1) := by decide +kernel
theorem dL_517 : decode code 517 = .ok (.iaload, 1) := by decide +kernel
theorem dL_518 : decode code 518 = .ok (.aload_n 0, 1) := by decide +kernel
theorem dL_519 : decode code 519 = .ok (.iload_n 3, 1) := by decide +kernel
theorem dL_520 : decode code 520 = .ok (.iconst 4, 1) := by decide +kernel
theorem dL_521 : decode code 521 = .ok (.iadd, 1) := by decide +kernel
theorem dL_522 : decode code 522 = .ok (.iaload, 1) := by decide +kernel
theorem dL_523 : decode code 523 = .ok (.aload_n 0, 1) := by decide +kernel
theorem dL_524 : decode code 524 = .ok (.iload_n 3, 1) := by decide +kernel
theorem dL_525 : decode code 525 = .ok (.iconst 5, 1) := by decide +kernel
theorem dL_526 : decode code 526 = .ok (.iadd, 1) := by decide +kernel
theorem dL_527 : decode code 527 = .ok (.iaload, 1) := by decide +kernel
theorem dL_528 : decode code 528 = .ok (.invokevirtual 47, 3) := by decide +kernel
theorem dL_531 : decode code 531 = .ok (.if_icmp .eq 885, 3) := by decide +kernel
theorem dL_536 : decode code 536 = .ok (.aload_n 1, 1) := by decide +kernel
theorem dL_537 : decode code 537 = .ok (.aload_n 0, 1) := by decide +kernel
theorem dL_538 : decode code 538 = .ok (.iload_n 3, 1) := by decide +kernel
theorem dL_539 : decode code 539 = .ok (.iconst 1, 1) := by decide +kernel
theorem dL_540 : decode code 540 = .ok (.iadd, 1) := by decide +kernel
theorem dL_541 : decode code 541 = .ok (.iaload, 1) := by decide +kernel
theorem dL_542 : decode code 542 = .ok (.invokevirtual 48, 3) := by decide +kernel
theorem dL_545 : decode code 545 = .ok (.aload_n 2, 1) := by decide +kernel
theorem dL_546 : decode code 546 = .ok (.aload_n 0, 1) := by decide +kernel
theorem dL_547 : decode code 547 = .ok (.iload_n 3, 1) := by decide +kernel
theorem dL_548 : decode code 548 = .ok (.iconst 1, 1) := by decide +kernel
theorem dL_549 : decode code 549 = .ok (.iadd, 1) := by decide +kernel
theorem dL_550 : decode code 550 = .ok (.iaload, 1) := by decide +kernel
theorem dL_551 : decode code 551 = .ok (.invokevirtual 52, 3) := by decide +kernel
theorem dL_554 : decode code 554 = .ok (.if_icmp .eq 862, 3) := by decide +kernel
theorem dL_559 : decode code 559 = .ok (.aload_n 1, 1) := by decide +kernel
theorem dL_560 : decode code 560 = .ok (.invokevirtual 53, 3) := by decide +kernel
theorem dL_563 : decode code 563 = .ok (.aload_n 2, 1) := by decide +kernel
theorem dL_564 : decode code 564 = .ok (.invokevirtual 57, 3) := by decide +kernel
theorem dL_567 : decode code 567 = .ok (.if_icmp .eq 849, 3) := by decide +kernel
theorem dL_572 : decode code 572 = .ok (.aload_n 1, 1) := by decide +kernel
theorem dL_573 : decode code 573 = .ok (.invokevirtual 58, 3) := by decide +kernel
theorem dL_576 : decode code 576 = .ok (.aload_n 2, 1) := by decide +kernel
theorem dL_577 : decode code 577 = .ok (.invokevirtual 61, 3) := by decide +kernel
theorem dL_580 : decode code 580 = .ok (.if_icmp .eq 836, 3) := by decide +kernel
theorem dL_585 : decode code 585 = .ok (.aload_n 1, 1) := by decide +kernel
theorem dL_586 : decode code 586 = .ok (.invokevirtual 62, 3) := by decide +kernel
theorem dL_589 : decode code 589 = .ok (.aload_n 2, 1) := by decide +kernel
theorem dL_590 : decode code 590 = .ok (.invokevirtual 65, 3) := by decide +kernel
theorem dL_593 : decode code 593 = .ok (.if_icmp .eq 823, 3) := by decide +kernel
theorem dL_598 : decode code 598 = .ok (.aload_n 1, 1) := by decide +kernel
theorem dL_599 : decode code 599 = .ok (.invokevirtual 66, 3) := by decide +kernel
theorem dL_602 : decode code 602 = .ok (.aload_n 2, 1) := by decide +kernel
theorem dL_603 : decode code 603 = .ok (.invokevirtual 69, 3) := by decide +kernel
theorem dL_606 : decode code 606 = .ok (.if_icmp .eq 810, 3) := by decide +kernel
theorem dL_611 : decode code 611 = .ok (.aload_n 1, 1) := by decide +kernel
theorem dL_612 : decode code 612 = .ok (.invokevirtual 70, 3) := by decide +kernel
theorem dL_615 : decode code 615 = .ok (.aload_n 2, 1) := by decide +kernel
theorem dL_616 : decode code 616 = .ok (.invokevirtual 73, 3) := by decide +kernel
theorem dL_619 : decode code 619 = .ok (.if_icmp .eq 797, 3) := by decide +kernel
theorem dL_624 : decode code 624 = .ok (.aload_n 1, 1) := by decide +kernel
theorem dL_625 : decode code 625 = .ok (.invokevirtual 74, 3) := by decide +kernel
theorem dL_628 : decode code 628 = .ok (.aload_n 2, 1) := by decide +kernel
theorem dL_629 : decode code 629 = .ok (.invokevirtual 77, 3) := by decide +kernel
theorem dL_632 : decode code 632 = .ok (.if_icmp .eq 784, 3) := by decide +kernel
theorem dL_637 : decode code 637 = .ok (.aload_n 1, 1) := by decide +kernel
theorem dL_638 : decode code 638 = .ok (.aload_n 0, 1) := by decide +kernel
theorem dL_639 : decode code 639 = .ok (.iload_n 3, 1) := by decide +kernel
theorem dL_640 : decode code 640 = .ok (.iconst 1, 1) := by decide +kernel
theorem dL_641 : decode code 641 = .ok (.iadd, 1) := by decide +kernel
theorem dL_642 : decode code 642 = .ok (.iaload, 1) := by decide +kernel
theorem dL_643 : decode code 643 = .ok (.invokevirtual 78, 3) := by decide +kernel
theorem dL_646 : decode code 646 = .ok (.aload_n 2, 1) := by decide +kernel
theorem dL_647 : decode code 647 = .ok (.aload_n 0, 1) := by decide +kernel
theorem dL_648 : decode code 648 = .ok (.iload_n 3, 1) := by decide +kernel
theorem dL_649 : decode code 649 = .ok (.iconst 1, 1) := by decide +kernel
theorem dL_650 : decode code 650 = .ok (.iadd, 1) := by decide +kernel
theorem dL_651 : decode code 651 = .ok (.iaload, 1) := by decide +kernel
theorem dL_652 : decode code 652 = .ok (.invokevirtual 81, 3) := by decide +kernel
theorem dL_655 : decode code 655 = .ok (.if_icmp .eq 761, 3) := by decide +kernel
theorem dL_660 : decode code 660 = .ok (.aload_n 1, 1) := by decide +kernel
theorem dL_661 : decode code 661 = .ok (.aload_n 0, 1) := by decide +kernel
theorem dL_662 : decode code 662 = .ok (.iload_n 3, 1) := by decide +kernel
theorem dL_663 : decode code 663 = .ok (.iconst 1, 1) := by decide +kernel
theorem dL_664 : decode code 664 = .ok (.iadd, 1) := by decide +kernel
theorem dL_665 : decode code 665 = .ok (.iaload, 1) := by decide +kernel
theorem dL_666 : decode code 666 = .ok (.aload_n 0, 1) := by decide +kernel
theorem dL_667 : decode code 667 = .ok (.iload_n 3, 1) := by decide +kernel
theorem dL_668 : decode code 668 = .ok (.iconst 2, 1) := by decide +kernel
theorem dL_669 : decode code 669 = .ok (.iadd, 1) := by decide +kernel
theorem dL_670 : decode code 670 = .ok (.iaload, 1) := by decide +kernel
theorem dL_671 : decode code 671 = .ok (.invokevirtual 82, 3) := by decide +kernel
theorem dL_674 : decode code 674 = .ok (.aload_n 2, 1) := by decide +kernel
theorem dL_675 : decode code 675 = .ok (.aload_n 0, 1) := by decide +kernel
theorem dL_676 : decode code 676 = .ok (.iload_n 3, 1) := by decide +kernel
theorem dL_677 : decode code 677 = .ok (.iconst 1, 1) := by decide +kernel
theorem dL_678 : decode code 678 = .ok (.iadd, 1) := by decide +kernel
theorem dL_679 : decode code 679 = .ok (.iaload, 1) := by decide +kernel
theorem dL_680 : decode code 680 = .ok (.aload_n 0, 1) := by decide +kernel
theorem dL_681 : decode code 681 = .ok (.iload_n 3, 1) := by decide +kernel
theorem dL_682 : decode code 682 = .ok (.iconst 2, 1) := by decide +kernel
theorem dL_683 : decode code 683 = .ok (.iadd, 1) := by decide +kernel
theorem dL_684 : decode code 684 = .ok (.iaload, 1) := by decide +kernel
theorem dL_685 : decode code 685 = .ok (.invokevirtual 85, 3) := by decide +kernel
theorem dL_688 : decode code 688 = .ok (.if_icmp .eq 728, 3) := by decide +kernel
theorem dL_693 : decode code 693 = .ok (.aload_n 1, 1) := by decide +kernel
theorem dL_694 : decode code 694 = .ok (.aload_n 0, 1) := by decide +kernel
theorem dL_695 : decode code 695 = .ok (.iload_n 3, 1) := by decide +kernel
theorem dL_696 : decode code 696 = .ok (.iconst 1, 1) := by decide +kernel
theorem dL_697 : decode code 697 = .ok (.iadd, 1) := by decide +kernel
theorem dL_698 : decode code 698 = .ok (.iaload, 1) := by decide +kernel
theorem dL_699 : decode code 699 = .ok (.aload_n 0, 1) := by decide +kernel
theorem dL_700 : decode code 700 = .ok (.iload_n 3, 1) := by decide +kernel
theorem dL_701 : decode code 701 = .ok (.iconst 2, 1) := by decide +kernel
theorem dL_702 : decode code 702 = .ok (.iadd, 1) := by decide +kernel
theorem dL_703 : decode code 703 = .ok (.iaload, 1) := by decide +kernel
theorem dL_704 : decode code 704 = .ok (.invokevirtual 86, 3) := by decide +kernel
theorem dL_707 : decode code 707 = .ok (.aload_n 2, 1) := by decide +kernel
theorem dL_708 : decode code 708 = .ok (.aload_n 0, 1) := by decide +kernel
theorem dL_709 : decode code 709 = .ok (.iload_n 3, 1) := by decide +kernel
theorem dL_710 : decode code 710 = .ok (.iconst 1, 1) := by decide +kernel
theorem dL_711 : decode code 711 = .ok (.iadd, 1) := by decide +kernel
theorem dL_712 : decode code 712 = .ok (.iaload, 1) := by decide +kernel
theorem dL_713 : decode code 713 = .ok (.aload_n 0, 1) := by decide +kernel
theorem dL_714 : decode code 714 = .ok (.iload_n 3, 1) := by decide +kernel
theorem dL_715 : decode code 715 = .ok (.iconst 2, 1) := by decide +kernel
theorem dL_716 : decode code 716 = .ok (.iadd, 1) := by decide +kernel
theorem dL_717 : decode code 717 = .ok (.iaload, 1) := by decide +kernel
theorem dL_718 : decode code 718 = .ok (.invokevirtual 89, 3) := by decide +kernel
theorem dL_721 : decode code 721 = .ok (.if_icmp .eq 695, 3) := by decide +kernel
theorem dL_726 : decode code 726 = .ok (.aload_n 1, 1) := by decide +kernel
theorem dL_727 : decode code 727 = .ok (.aload_n 0, 1) := by decide +kernel
theorem dL_728 : decode code 728 = .ok (.iload_n 3, 1) := by decide +kernel
theorem dL_729 : decode code 729 = .ok (.iconst 1, 1) := by decide +kernel
theorem dL_730 : decode code 730 = .ok (.iadd, 1) := by decide +kernel
theorem dL_731 : decode code 731 = .ok (.iaload, 1) := by decide +kernel
theorem dL_732 : decode code 732 = .ok (.aload_n 0, 1) := by decide +kernel
theorem dL_733 : decode code 733 = .ok (.iload_n 3, 1) := by decide +kernel
theorem dL_734 : decode code 734 = .ok (.iconst 2, 1) := by decide +kernel
theorem dL_735 : decode code 735 = .ok (.iadd, 1) := by decide +kernel
theorem dL_736 : decode code 736 = .ok (.iaload, 1) := by decide +kernel
theorem dL_737 : decode code 737 = .ok (.invokevirtual 90, 3) := by decide +kernel
theorem dL_740 : decode code 740 = .ok (.aload_n 2, 1) := by decide +kernel
theorem dL_741 : decode code 741 = .ok (.aload_n 0, 1) := by decide +kernel
theorem dL_742 : decode code 742 = .ok (.iload_n 3, 1) := by decide +kernel
theorem dL_743 : decode code 743 = .ok (.iconst 1, 1) := by decide +kernel
theorem dL_744 : decode code 744 = .ok (.iadd, 1) := by decide +kernel
theorem dL_745 : decode code 745 = .ok (.iaload, 1) := by decide +kernel
theorem dL_746 : decode code 746 = .ok (.aload_n 0, 1) := by decide +kernel
theorem dL_747 : decode code 747 = .ok (.iload_n 3, 1) := by decide +kernel
theorem dL_748 : decode code 748 = .ok (.iconst 2, 1) := by decide +kernel
theorem dL_749 : decode code 749 = .ok (.iadd, 1) := by decide +kernel
theorem dL_750 : decode code 750 = .ok (.iaload, 1) := by decide +kernel
theorem dL_751 : decode code 751 = .ok (.invokevirtual 93, 3) := by decide +kernel
theorem dL_754 : decode code 754 = .ok (.if_icmp .eq 662, 3) := by decide +kernel
theorem dL_759 : decode code 759 = .ok (.aload_n 1, 1) := by decide +kernel
theorem dL_760 : decode code 760 = .ok (.aload_n 0, 1) := by decide +kernel
theorem dL_761 : decode code 761 = .ok (.iload_n 3, 1) := by decide +kernel
theorem dL_762 : decode code 762 = .ok (.iconst 1, 1) := by decide +kernel
theorem dL_763 : decode code 763 = .ok (.iadd, 1) := by decide +kernel
theorem dL_764 : decode code 764 = .ok (.iaload, 1) := by decide +kernel
theorem dL_765 : decode code 765 = .ok (.aload_n 0, 1) := by decide +kernel
theorem dL_766 : decode code 766 = .ok (.iload_n 3, 1) := by decide +kernel
theorem dL_767 : decode code 767 = .ok (.iconst 2, 1) := by decide +kernel
theorem dL_768 : decode code 768 = .ok (.iadd, 1) := by decide +kernel
theorem dL_769 : decode code 769 = .ok (.iaload, 1) := by decide +kernel
theorem dL_770 : decode code 770 = .ok (.invokevirtual 94, 3) := by decide +kernel
theorem dL_773 : decode code 773 = .ok (.aload_n 2, 1) := by decide +kernel
theorem dL_774 : decode code 774 = .ok (.aload_n 0, 1) := by decide +kernel
theorem dL_775 : decode code 775 = .ok (.iload_n 3, 1) := by decide +kernel
theorem dL_776 : decode code 776 = .ok (.iconst 1, 1) := by decide +kernel
theorem dL_777 : decode code 777 = .ok (.iadd, 1) := by decide +kernel
theorem dL_778 : decode code 778 = .ok (.iaload, 1) := by decide +kernel
theorem dL_779 : decode code 779 = .ok (.aload_n 0, 1) := by decide +kernel
theorem dL_780 : decode code 780 = .ok (.iload_n 3, 1) := by decide +kernel
theorem dL_781 : decode code 781 = .ok (.iconst 2, 1) := by decide +kernel
theorem dL_782 : decode code 782 = .ok (.iadd, 1) := by decide +kernel
theorem dL_783 : decode code 783 = .ok (.iaload, 1) := by decide +kernel
theorem dL_784 : decode code 784 = .ok (.invokevirtual 97, 3) := by decide +kernel
theorem dL_787 : decode code 787 = .ok (.if_icmp .eq 629, 3) := by decide +kernel
theorem dL_792 : decode code 792 = .ok (.aload_n 1, 1) := by decide +kernel
theorem dL_793 : decode code 793 = .ok (.invokevirtual 98, 3) := by decide +kernel
theorem dL_796 : decode code 796 = .ok (.aload_n 2, 1) := by decide +kernel
theorem dL_797 : decode code 797 = .ok (.invokevirtual 101, 3) := by decide +kernel
theorem dL_800 : decode code 800 = .ok (.if_icmp .eq 616, 3) := by decide +kernel
theorem dL_805 : decode code 805 = .ok (.aload_n 1, 1) := by decide +kernel
theorem dL_806 : decode code 806 = .ok (.aload_n 0, 1) := by decide +kernel
theorem dL_807 : decode code 807 = .ok (.iload_n 3, 1) := by decide +kernel
theorem dL_808 : decode code 808 = .ok (.iconst 1, 1) := by decide +kernel
theorem dL_809 : decode code 809 = .ok (.iadd, 1) := by decide +kernel
theorem dL_810 : decode code 810 = .ok (.iaload, 1) := by decide +kernel
theorem dL_811 : decode code 811 = .ok (.aload_n 0, 1) := by decide +kernel
theorem dL_812 : decode code 812 = .ok (.iload_n 3, 1) := by decide +kernel
theorem dL_813 : decode code 813 = .ok (.iconst 2, 1) := by decide +kernel
theorem dL_814 : decode code 814 = .ok (.iadd, 1) := by decide +kernel
theorem dL_815 : decode code 815 = .ok (.iaload, 1) := by decide +kernel
theorem dL_816 : decode code 816 = .ok (.aload_n 0, 1) := by decide +kernel
theorem dL_817 : decode code 817 = .ok (.iload_n 3, 1) := by decide +kernel
theorem dL_818 : decode code 818 = .ok (.iconst 3, 1) := by decide +kernel
theorem dL_819 : decode code 819 = .ok (.iadd, 1) := by decide +kernel
theorem dL_820 : decode code 820 = .ok (.iaload, 1) := by decide +kernel
theorem dL_821 : decode code 821 = .ok (.invokevirtual 102, 3) := by decide +kernel
theorem dL_824 : decode code 824 = .ok (.aload_n 2, 1) := by decide +kernel
theorem dL_825 : decode code 825 = .ok (.aload_n 0, 1) := by decide +kernel
theorem dL_826 : decode code 826 = .ok (.iload_n 3, 1) := by decide +kernel
theorem dL_827 : decode code 827 = .ok (.iconst 1, 1) := by decide +kernel
theorem dL_828 : decode code 828 = .ok (.iadd, 1) := by decide +kernel
theorem dL_829 : decode code 829 = .ok (.iaload, 1) := by decide +kernel
theorem dL_830 : decode code 830 = .ok (.aload_n 0, 1) := by decide +kernel
theorem dL_831 : decode code 831 = .ok (.iload_n 3, 1) := by decide +kernel
theorem dL_832 : decode code 832 = .ok (.iconst 2, 1) := by decide +kernel
theorem dL_833 : decode code 833 = .ok (.iadd, 1) := by decide +kernel
theorem dL_834 : decode code 834 = .ok (.iaload, 1) := by decide +kernel
theorem dL_835 : decode code 835 = .ok (.aload_n 0, 1) := by decide +kernel
theorem dL_836 : decode code 836 = .ok (.iload_n 3, 1) := by decide +kernel
theorem dL_837 : decode code 837 = .ok (.iconst 3, 1) := by decide +kernel
theorem dL_838 : decode code 838 = .ok (.iadd, 1) := by decide +kernel
theorem dL_839 : decode code 839 = .ok (.iaload, 1) := by decide +kernel
