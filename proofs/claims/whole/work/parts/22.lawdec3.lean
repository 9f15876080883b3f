theorem dL_620 : decode code 620 = .ok (.invokevirtual 69, 3) := by decide +kernel
theorem dL_623 : decode code 623 = .ok (.aload_n 2, 1) := by decide +kernel
theorem dL_624 : decode code 624 = .ok (.aload_n 0, 1) := by decide +kernel
theorem dL_625 : decode code 625 = .ok (.iload_n 3, 1) := by decide +kernel
theorem dL_626 : decode code 626 = .ok (.iconst 1, 1) := by decide +kernel
theorem dL_627 : decode code 627 = .ok (.iadd, 1) := by decide +kernel
theorem dL_628 : decode code 628 = .ok (.iaload, 1) := by decide +kernel
theorem dL_629 : decode code 629 = .ok (.invokevirtual 72, 3) := by decide +kernel
theorem dL_632 : decode code 632 = .ok (.if_icmp .eq 771, 3) := by decide +kernel
theorem dL_635 : decode code 635 = .ok (.iconst 0, 1) := by decide +kernel
theorem dL_636 : decode code 636 = .ok (.ireturn, 1) := by decide +kernel
theorem dL_637 : decode code 637 = .ok (.aload_n 1, 1) := by decide +kernel
theorem dL_638 : decode code 638 = .ok (.aload_n 0, 1) := by decide +kernel
theorem dL_639 : decode code 639 = .ok (.iload_n 3, 1) := by decide +kernel
theorem dL_640 : decode code 640 = .ok (.iconst 1, 1) := by decide +kernel
theorem dL_641 : decode code 641 = .ok (.iadd, 1) := by decide +kernel
theorem dL_642 : decode code 642 = .ok (.iaload, 1) := by decide +kernel
theorem dL_643 : decode code 643 = .ok (.aload_n 0, 1) := by decide +kernel
theorem dL_644 : decode code 644 = .ok (.iload_n 3, 1) := by decide +kernel
theorem dL_645 : decode code 645 = .ok (.iconst 2, 1) := by decide +kernel
theorem dL_646 : decode code 646 = .ok (.iadd, 1) := by decide +kernel
theorem dL_647 : decode code 647 = .ok (.iaload, 1) := by decide +kernel
theorem dL_648 : decode code 648 = .ok (.invokevirtual 73, 3) := by decide +kernel
theorem dL_651 : decode code 651 = .ok (.aload_n 2, 1) := by decide +kernel
theorem dL_652 : decode code 652 = .ok (.aload_n 0, 1) := by decide +kernel
theorem dL_653 : decode code 653 = .ok (.iload_n 3, 1) := by decide +kernel
theorem dL_654 : decode code 654 = .ok (.iconst 1, 1) := by decide +kernel
theorem dL_655 : decode code 655 = .ok (.iadd, 1) := by decide +kernel
theorem dL_656 : decode code 656 = .ok (.iaload, 1) := by decide +kernel
theorem dL_657 : decode code 657 = .ok (.aload_n 0, 1) := by decide +kernel
theorem dL_658 : decode code 658 = .ok (.iload_n 3, 1) := by decide +kernel
theorem dL_659 : decode code 659 = .ok (.iconst 2, 1) := by decide +kernel
theorem dL_660 : decode code 660 = .ok (.iadd, 1) := by decide +kernel
theorem dL_661 : decode code 661 = .ok (.iaload, 1) := by decide +kernel
theorem dL_662 : decode code 662 = .ok (.invokevirtual 76, 3) := by decide +kernel
theorem dL_665 : decode code 665 = .ok (.if_icmp .eq 738, 3) := by decide +kernel
theorem dL_668 : decode code 668 = .ok (.iconst 0, 1) := by decide +kernel
theorem dL_669 : decode code 669 = .ok (.ireturn, 1) := by decide +kernel
theorem dL_670 : decode code 670 = .ok (.aload_n 1, 1) := by decide +kernel
theorem dL_671 : decode code 671 = .ok (.aload_n 0, 1) := by decide +kernel
theorem dL_672 : decode code 672 = .ok (.iload_n 3, 1) := by decide +kernel
theorem dL_673 : decode code 673 = .ok (.iconst 1, 1) := by decide +kernel
theorem dL_674 : decode code 674 = .ok (.iadd, 1) := by decide +kernel
theorem dL_675 : decode code 675 = .ok (.iaload, 1) := by decide +kernel
theorem dL_676 : decode code 676 = .ok (.invokevirtual 77, 3) := by decide +kernel
theorem dL_679 : decode code 679 = .ok (.aload_n 2, 1) := by decide +kernel
theorem dL_680 : decode code 680 = .ok (.aload_n 0, 1) := by decide +kernel
theorem dL_681 : decode code 681 = .ok (.iload_n 3, 1) := by decide +kernel
theorem dL_682 : decode code 682 = .ok (.iconst 1, 1) := by decide +kernel
theorem dL_683 : decode code 683 = .ok (.iadd, 1) := by decide +kernel
theorem dL_684 : decode code 684 = .ok (.iaload, 1) := by decide +kernel
theorem dL_685 : decode code 685 = .ok (.invokevirtual 80, 3) := by decide +kernel
theorem dL_688 : decode code 688 = .ok (.if_icmp .eq 715, 3) := by decide +kernel
theorem dL_691 : decode code 691 = .ok (.iconst 0, 1) := by decide +kernel
theorem dL_692 : decode code 692 = .ok (.ireturn, 1) := by decide +kernel
theorem dL_693 : decode code 693 = .ok (.aload_n 1, 1) := by decide +kernel
theorem dL_694 : decode code 694 = .ok (.aload_n 0, 1) := by decide +kernel
theorem dL_695 : decode code 695 = .ok (.iload_n 3, 1) := by decide +kernel
theorem dL_696 : decode code 696 = .ok (.iconst 1, 1) := by decide +kernel
theorem dL_697 : decode code 697 = .ok (.iadd, 1) := by decide +kernel
theorem dL_698 : decode code 698 = .ok (.iaload, 1) := by decide +kernel
theorem dL_699 : decode code 699 = .ok (.invokevirtual 81, 3) := by decide +kernel
theorem dL_702 : decode code 702 = .ok (.aload_n 2, 1) := by decide +kernel
theorem dL_703 : decode code 703 = .ok (.aload_n 0, 1) := by decide +kernel
theorem dL_704 : decode code 704 = .ok (.iload_n 3, 1) := by decide +kernel
theorem dL_705 : decode code 705 = .ok (.iconst 1, 1) := by decide +kernel
theorem dL_706 : decode code 706 = .ok (.iadd, 1) := by decide +kernel
theorem dL_707 : decode code 707 = .ok (.iaload, 1) := by decide +kernel
theorem dL_708 : decode code 708 = .ok (.invokevirtual 84, 3) := by decide +kernel
theorem dL_711 : decode code 711 = .ok (.if_icmp .eq 692, 3) := by decide +kernel
theorem dL_714 : decode code 714 = .ok (.iconst 0, 1) := by decide +kernel
theorem dL_715 : decode code 715 = .ok (.ireturn, 1) := by decide +kernel
theorem dL_716 : decode code 716 = .ok (.aload_n 1, 1) := by decide +kernel
theorem dL_717 : decode code 717 = .ok (.invokevirtual 85, 3) := by decide +kernel
theorem dL_720 : decode code 720 = .ok (.aload_n 2, 1) := by decide +kernel
theorem dL_721 : decode code 721 = .ok (.invokevirtual 89, 3) := by decide +kernel
theorem dL_724 : decode code 724 = .ok (.if_icmp .eq 679, 3) := by decide +kernel
theorem dL_727 : decode code 727 = .ok (.iconst 0, 1) := by decide +kernel
theorem dL_728 : decode code 728 = .ok (.ireturn, 1) := by decide +kernel
theorem dL_729 : decode code 729 = .ok (.aload_n 1, 1) := by decide +kernel
theorem dL_730 : decode code 730 = .ok (.aload_n 0, 1) := by decide +kernel
theorem dL_731 : decode code 731 = .ok (.iload_n 3, 1) := by decide +kernel
theorem dL_732 : decode code 732 = .ok (.iconst 1, 1) := by decide +kernel
theorem dL_733 : decode code 733 = .ok (.iadd, 1) := by decide +kernel
theorem dL_734 : decode code 734 = .ok (.iaload, 1) := by decide +kernel
theorem dL_735 : decode code 735 = .ok (.aload_n 0, 1) := by decide +kernel
theorem dL_736 : decode code 736 = .ok (.iload_n 3, 1) := by decide +kernel
theorem dL_737 : decode code 737 = .ok (.iconst 2, 1) := by decide +kernel
theorem dL_738 : decode code 738 = .ok (.iadd, 1) := by decide +kernel
theorem dL_739 : decode code 739 = .ok (.iaload, 1) := by decide +kernel
theorem dL_740 : decode code 740 = .ok (.invokevirtual 90, 3) := by decide +kernel
theorem dL_743 : decode code 743 = .ok (.aload_n 2, 1) := by decide +kernel
theorem dL_744 : decode code 744 = .ok (.aload_n 0, 1) := by decide +kernel
theorem dL_745 : decode code 745 = .ok (.iload_n 3, 1) := by decide +kernel
theorem dL_746 : decode code 746 = .ok (.iconst 1, 1) := by decide +kernel
theorem dL_747 : decode code 747 = .ok (.iadd, 1) := by decide +kernel
theorem dL_748 : decode code 748 = .ok (.iaload, 1) := by decide +kernel
theorem dL_749 : decode code 749 = .ok (.aload_n 0, 1) := by decide +kernel
theorem dL_750 : decode code 750 = .ok (.iload_n 3, 1) := by decide +kernel
theorem dL_751 : decode code 751 = .ok (.iconst 2, 1) := by decide +kernel
theorem dL_752 : decode code 752 = .ok (.iadd, 1) := by decide +kernel
theorem dL_753 : decode code 753 = .ok (.iaload, 1) := by decide +kernel
theorem dL_754 : decode code 754 = .ok (.invokevirtual 93, 3) := by decide +kernel
theorem dL_757 : decode code 757 = .ok (.if_icmp .eq 646, 3) := by decide +kernel
theorem dL_760 : decode code 760 = .ok (.iconst 0, 1) := by decide +kernel
theorem dL_761 : decode code 761 = .ok (.ireturn, 1) := by decide +kernel
theorem dL_762 : decode code 762 = .ok (.aload_n 1, 1) := by decide +kernel
theorem dL_763 : decode code 763 = .ok (.aload_n 0, 1) := by decide +kernel
theorem dL_764 : decode code 764 = .ok (.iload_n 3, 1) := by decide +kernel
theorem dL_765 : decode code 765 = .ok (.iconst 1, 1) := by decide +kernel
theorem dL_766 : decode code 766 = .ok (.iadd, 1) := by decide +kernel
theorem dL_767 : decode code 767 = .ok (.iaload, 1) := by decide +kernel
theorem dL_768 : decode code 768 = .ok (.aload_n 0, 1) := by decide +kernel
theorem dL_769 : decode code 769 = .ok (.iload_n 3, 1) := by decide +kernel
theorem dL_770 : decode code 770 = .ok (.iconst 2, 1) := by decide +kernel
theorem dL_771 : decode code 771 = .ok (.iadd, 1) := by decide +kernel
theorem dL_772 : decode code 772 = .ok (.iaload, 1) := by decide +kernel
theorem dL_773 : decode code 773 = .ok (.aload_n 0, 1) := by decide +kernel
theorem dL_774 : decode code 774 = .ok (.iload_n 3, 1) := by decide +kernel
theorem dL_775 : decode code 775 = .ok (.iconst 3, 1) := by decide +kernel
