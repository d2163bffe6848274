theorem dL_built_563 : decode cL_built 563 = .ok (.invokestatic 127, 3) := by decide +kernel
theorem dL_built_566 : decode cL_built 566 = .ok (.lcmp, 1) := by decide +kernel
theorem dL_built_567 : decode cL_built 567 = .ok (.ifCond .ne 63, 3) := by decide +kernel
theorem dL_built_570 : decode cL_built 570 = .ok (.iload 32, 2) := by decide +kernel
theorem dL_built_572 : decode cL_built 572 = .ok (.ifCond .ne 22, 3) := by decide +kernel
theorem dL_built_575 : decode cL_built 575 = .ok (.aload_n 0, 1) := by decide +kernel
theorem dL_built_576 : decode cL_built 576 = .ok (.iload 15, 2) := by decide +kernel
theorem dL_built_578 : decode cL_built 578 = .ok (.iload 32, 2) := by decide +kernel
theorem dL_built_580 : decode cL_built 580 = .ok (.iconst 2, 1) := by decide +kernel
theorem dL_built_581 : decode cL_built 581 = .ok (.invokestatic 134, 3) := by decide +kernel
theorem dL_built_584 : decode cL_built 584 = .ok (.ldc2_w 204, 3) := by decide +kernel
theorem dL_built_587 : decode cL_built 587 = .ok (.lcmp, 1) := by decide +kernel
theorem dL_built_588 : decode cL_built 588 = .ok (.ifCond .ne 42, 3) := by decide +kernel
theorem dL_built_591 : decode cL_built 591 = .ok (.goto 35, 3) := by decide +kernel
theorem dL_built_594 : decode cL_built 594 = .ok (.aload_n 0, 1) := by decide +kernel
theorem dL_built_595 : decode cL_built 595 = .ok (.iload 15, 2) := by decide +kernel
theorem dL_built_597 : decode cL_built 597 = .ok (.iload 32, 2) := by decide +kernel
theorem dL_built_599 : decode cL_built 599 = .ok (.iconst 2, 1) := by decide +kernel
theorem dL_built_600 : decode cL_built 600 = .ok (.invokestatic 134, 3) := by decide +kernel
theorem dL_built_603 : decode cL_built 603 = .ok (.ldc2_w 206, 3) := by decide +kernel
theorem dL_built_606 : decode cL_built 606 = .ok (.lcmp, 1) := by decide +kernel
theorem dL_built_607 : decode cL_built 607 = .ok (.ifCond .eq 19, 3) := by decide +kernel
theorem dL_built_610 : decode cL_built 610 = .ok (.aload_n 0, 1) := by decide +kernel
theorem dL_built_611 : decode cL_built 611 = .ok (.iload 15, 2) := by decide +kernel
theorem dL_built_613 : decode cL_built 613 = .ok (.iload 32, 2) := by decide +kernel
theorem dL_built_615 : decode cL_built 615 = .ok (.iconst 2, 1) := by decide +kernel
theorem dL_built_616 : decode cL_built 616 = .ok (.invokestatic 134, 3) := by decide +kernel
theorem dL_built_619 : decode cL_built 619 = .ok (.ldc2_w 208, 3) := by decide +kernel
theorem dL_built_622 : decode cL_built 622 = .ok (.lcmp, 1) := by decide +kernel
theorem dL_built_623 : decode cL_built 623 = .ok (.ifCond .ne 7, 3) := by decide +kernel
theorem dL_built_626 : decode cL_built 626 = .ok (.iconst 1, 1) := by decide +kernel
theorem dL_built_627 : decode cL_built 627 = .ok (.goto 4, 3) := by decide +kernel
theorem dL_built_630 : decode cL_built 630 = .ok (.iconst 0, 1) := by decide +kernel
theorem dL_built_631 : decode cL_built 631 = .ok (.istore 14, 2) := by decide +kernel
theorem dL_built_633 : decode cL_built 633 = .ok (.iinc 32 1, 3) := by decide +kernel
theorem dL_built_636 : decode cL_built 636 = .ok (.goto (-255), 3) := by decide +kernel
theorem dL_built_639 : decode cL_built 639 = .ok (.iload 14, 2) := by decide +kernel
theorem dL_built_641 : decode cL_built 641 = .ok (.ifCond .eq 23, 3) := by decide +kernel
theorem dL_built_644 : decode cL_built 644 = .ok (.lload 16, 2) := by decide +kernel
theorem dL_built_646 : decode cL_built 646 = .ok (.lload 28, 2) := by decide +kernel
theorem dL_built_648 : decode cL_built 648 = .ok (.lcmp, 1) := by decide +kernel
theorem dL_built_649 : decode cL_built 649 = .ok (.ifCond .lt 15, 3) := by decide +kernel
theorem dL_built_652 : decode cL_built 652 = .ok (.lload 16, 2) := by decide +kernel
theorem dL_built_654 : decode cL_built 654 = .ok (.lload 30, 2) := by decide +kernel
theorem dL_built_656 : decode cL_built 656 = .ok (.lcmp, 1) := by decide +kernel
theorem dL_built_657 : decode cL_built 657 = .ok (.ifCond .gt 7, 3) := by decide +kernel
theorem dL_built_660 : decode cL_built 660 = .ok (.iconst 1, 1) := by decide +kernel
theorem dL_built_661 : decode cL_built 661 = .ok (.goto 4, 3) := by decide +kernel
theorem dL_built_664 : decode cL_built 664 = .ok (.iconst 0, 1) := by decide +kernel
theorem dL_built_665 : decode cL_built 665 = .ok (.istore 14, 2) := by decide +kernel
theorem dL_built_667 : decode cL_built 667 = .ok (.iinc 15 1, 3) := by decide +kernel
theorem dL_built_670 : decode cL_built 670 = .ok (.goto (-632), 3) := by decide +kernel
theorem dL_built_673 : decode cL_built 673 = .ok (.iconst 1, 1) := by decide +kernel
theorem dL_built_674 : decode cL_built 674 = .ok (.istore 15, 2) := by decide +kernel
theorem dL_built_676 : decode cL_built 676 = .ok (.iload 15, 2) := by decide +kernel
theorem dL_built_678 : decode cL_built 678 = .ok (.i2l, 1) := by decide +kernel
theorem dL_built_679 : decode cL_built 679 = .ok (.aload_n 0, 1) := by decide +kernel
theorem dL_built_680 : decode cL_built 680 = .ok (.bipush 7, 2) := by decide +kernel
theorem dL_built_682 : decode cL_built 682 = .ok (.invokestatic 109, 3) := by decide +kernel
theorem dL_built_685 : decode cL_built 685 = .ok (.lcmp, 1) := by decide +kernel
theorem dL_built_686 : decode cL_built 686 = .ok (.ifCond .ge 92, 3) := by decide +kernel
theorem dL_built_689 : decode cL_built 689 = .ok (.iload 14, 2) := by decide +kernel
theorem dL_built_691 : decode cL_built 691 = .ok (.ifCond .eq 87, 3) := by decide +kernel
theorem dL_built_694 : decode cL_built 694 = .ok (.iconst 0, 1) := by decide +kernel
theorem dL_built_695 : decode cL_built 695 = .ok (.istore 16, 2) := by decide +kernel
theorem dL_built_697 : decode cL_built 697 = .ok (.iload 16, 2) := by decide +kernel
theorem dL_built_699 : decode cL_built 699 = .ok (.bipush 8, 2) := by decide +kernel
theorem dL_built_701 : decode cL_built 701 = .ok (.if_icmp .ge 33, 3) := by decide +kernel
theorem dL_built_704 : decode cL_built 704 = .ok (.aload_n 0, 1) := by decide +kernel
theorem dL_built_705 : decode cL_built 705 = .ok (.iload 15, 2) := by decide +kernel
theorem dL_built_707 : decode cL_built 707 = .ok (.iconst 0, 1) := by decide +kernel
theorem dL_built_708 : decode cL_built 708 = .ok (.iload 16, 2) := by decide +kernel
theorem dL_built_710 : decode cL_built 710 = .ok (.invokestatic 139, 3) := by decide +kernel
theorem dL_built_713 : decode cL_built 713 = .ok (.aload_n 0, 1) := by decide +kernel
theorem dL_built_714 : decode cL_built 714 = .ok (.iload 15, 2) := by decide +kernel
theorem dL_built_716 : decode cL_built 716 = .ok (.iconst 1, 1) := by decide +kernel
theorem dL_built_717 : decode cL_built 717 = .ok (.isub, 1) := by decide +kernel
theorem dL_built_718 : decode cL_built 718 = .ok (.iconst 0, 1) := by decide +kernel
theorem dL_built_719 : decode cL_built 719 = .ok (.iload 16, 2) := by decide +kernel
theorem dL_built_721 : decode cL_built 721 = .ok (.invokestatic 139, 3) := by decide +kernel
theorem dL_built_724 : decode cL_built 724 = .ok (.lcmp, 1) := by decide +kernel
theorem dL_built_725 : decode cL_built 725 = .ok (.ifCond .ne 9, 3) := by decide +kernel
theorem dL_built_728 : decode cL_built 728 = .ok (.iinc 16 1, 3) := by decide +kernel
theorem dL_built_731 : decode cL_built 731 = .ok (.goto (-34), 3) := by decide +kernel
theorem dL_built_734 : decode cL_built 734 = .ok (.iload 16, 2) := by decide +kernel
theorem dL_built_736 : decode cL_built 736 = .ok (.bipush 8, 2) := by decide +kernel
theorem dL_built_738 : decode cL_built 738 = .ok (.if_icmp .ge 31, 3) := by decide +kernel
theorem dL_built_741 : decode cL_built 741 = .ok (.aload_n 0, 1) := by decide +kernel
theorem dL_built_742 : decode cL_built 742 = .ok (.iload 15, 2) := by decide +kernel
theorem dL_built_744 : decode cL_built 744 = .ok (.iconst 1, 1) := by decide +kernel
theorem dL_built_745 : decode cL_built 745 = .ok (.isub, 1) := by decide +kernel
theorem dL_built_746 : decode cL_built 746 = .ok (.iconst 0, 1) := by decide +kernel
theorem dL_built_747 : decode cL_built 747 = .ok (.iload 16, 2) := by decide +kernel
theorem dL_built_749 : decode cL_built 749 = .ok (.invokestatic 139, 3) := by decide +kernel
theorem dL_built_752 : decode cL_built 752 = .ok (.aload_n 0, 1) := by decide +kernel
theorem dL_built_753 : decode cL_built 753 = .ok (.iload 15, 2) := by decide +kernel
theorem dL_built_755 : decode cL_built 755 = .ok (.iconst 0, 1) := by decide +kernel
theorem dL_built_756 : decode cL_built 756 = .ok (.iload 16, 2) := by decide +kernel
theorem dL_built_758 : decode cL_built 758 = .ok (.invokestatic 139, 3) := by decide +kernel
theorem dL_built_761 : decode cL_built 761 = .ok (.lcmp, 1) := by decide +kernel
theorem dL_built_762 : decode cL_built 762 = .ok (.ifCond .ge 7, 3) := by decide +kernel
theorem dL_built_765 : decode cL_built 765 = .ok (.iconst 1, 1) := by decide +kernel
theorem dL_built_766 : decode cL_built 766 = .ok (.goto 4, 3) := by decide +kernel
theorem dL_built_769 : decode cL_built 769 = .ok (.iconst 0, 1) := by decide +kernel
theorem dL_built_770 : decode cL_built 770 = .ok (.istore 14, 2) := by decide +kernel
theorem dL_built_772 : decode cL_built 772 = .ok (.iinc 15 1, 3) := by decide +kernel
theorem dL_built_775 : decode cL_built 775 = .ok (.goto (-99), 3) := by decide +kernel
theorem dL_built_778 : decode cL_built 778 = .ok (.iload_n 1, 1) := by decide +kernel
theorem dL_built_779 : decode cL_built 779 = .ok (.ifCond .ne 7, 3) := by decide +kernel
theorem dL_built_782 : decode cL_built 782 = .ok (.lconst 0, 1) := by decide +kernel
theorem dL_built_783 : decode cL_built 783 = .ok (.goto 13, 3) := by decide +kernel
theorem dL_built_786 : decode cL_built 786 = .ok (.aload_n 0, 1) := by decide +kernel
theorem dL_built_787 : decode cL_built 787 = .ok (.iload_n 1, 1) := by decide +kernel
theorem dL_built_788 : decode cL_built 788 = .ok (.iconst 1, 1) := by decide +kernel
theorem dL_built_789 : decode cL_built 789 = .ok (.isub, 1) := by decide +kernel
theorem dL_built_790 : decode cL_built 790 = .ok (.iconst 2, 1) := by decide +kernel
theorem dL_built_791 : decode cL_built 791 = .ok (.invokestatic 124, 3) := by decide +kernel
theorem dL_built_794 : decode cL_built 794 = .ok (.lconst 1, 1) := by decide +kernel
theorem dL_built_795 : decode cL_built 795 = .ok (.ladd, 1) := by decide +kernel
theorem dL_built_796 : decode cL_built 796 = .ok (.lstore 15, 2) := by decide +kernel
theorem dL_built_798 : decode cL_built 798 = .ok (.aload_n 0, 1) := by decide +kernel
theorem dL_built_799 : decode cL_built 799 = .ok (.iconst 5, 1) := by decide +kernel
theorem dL_built_800 : decode cL_built 800 = .ok (.invokestatic 109, 3) := by decide +kernel
theorem dL_built_803 : decode cL_built 803 = .ok (.l2i, 1) := by decide +kernel
theorem dL_built_804 : decode cL_built 804 = .ok (.istore 17, 2) := by decide +kernel
theorem dL_built_806 : decode cL_built 806 = .ok (.lconst 0, 1) := by decide +kernel
theorem dL_built_807 : decode cL_built 807 = .ok (.lstore 18, 2) := by decide +kernel
theorem dL_built_809 : decode cL_built 809 = .ok (.iconst 0, 1) := by decide +kernel
theorem dL_built_810 : decode cL_built 810 = .ok (.istore 20, 2) := by decide +kernel
theorem dL_built_812 : decode cL_built 812 = .ok (.iload 20, 2) := by decide +kernel
theorem dL_built_814 : decode cL_built 814 = .ok (.iload 17, 2) := by decide +kernel
theorem dL_built_816 : decode cL_built 816 = .ok (.if_icmp .ge 196, 3) := by decide +kernel
theorem dL_built_819 : decode cL_built 819 = .ok (.iload 14, 2) := by decide +kernel
theorem dL_built_821 : decode cL_built 821 = .ok (.ifCond .eq 191, 3) := by decide +kernel
theorem dL_built_824 : decode cL_built 824 = .ok (.aload_n 0, 1) := by decide +kernel
theorem dL_built_825 : decode cL_built 825 = .ok (.iload 20, 2) := by decide +kernel
theorem dL_built_827 : decode cL_built 827 = .ok (.iconst 1, 1) := by decide +kernel
theorem dL_built_828 : decode cL_built 828 = .ok (.invokestatic 161, 3) := by decide +kernel
theorem dL_built_831 : decode cL_built 831 = .ok (.lstore 21, 2) := by decide +kernel
theorem dL_built_833 : decode cL_built 833 = .ok (.lload 18, 2) := by decide +kernel
theorem dL_built_835 : decode cL_built 835 = .ok (.aload_n 0, 1) := by decide +kernel
theorem dL_built_836 : decode cL_built 836 = .ok (.iload 20, 2) := by decide +kernel
theorem dL_built_838 : decode cL_built 838 = .ok (.iconst 0, 1) := by decide +kernel
theorem dL_built_839 : decode cL_built 839 = .ok (.invokestatic 161, 3) := by decide +kernel
theorem dL_built_842 : decode cL_built 842 = .ok (.lconst 0, 1) := by decide +kernel
theorem dL_built_843 : decode cL_built 843 = .ok (.lcmp, 1) := by decide +kernel
theorem dL_built_844 : decode cL_built 844 = .ok (.ifCond .ne 7, 3) := by decide +kernel
theorem dL_built_847 : decode cL_built 847 = .ok (.lconst 1, 1) := by decide +kernel
theorem dL_built_848 : decode cL_built 848 = .ok (.goto 4, 3) := by decide +kernel
theorem dL_built_851 : decode cL_built 851 = .ok (.lconst 0, 1) := by decide +kernel
theorem dL_built_852 : decode cL_built 852 = .ok (.ladd, 1) := by decide +kernel
theorem dL_built_853 : decode cL_built 853 = .ok (.lstore 18, 2) := by decide +kernel
theorem dL_built_855 : decode cL_built 855 = .ok (.aload_n 0, 1) := by decide +kernel
theorem dL_built_856 : decode cL_built 856 = .ok (.iload 20, 2) := by decide +kernel
theorem dL_built_858 : decode cL_built 858 = .ok (.lload 21, 2) := by decide +kernel
theorem dL_built_860 : decode cL_built 860 = .ok (.l2i, 1) := by decide +kernel
theorem dL_built_861 : decode cL_built 861 = .ok (.invokestatic 163, 3) := by decide +kernel
theorem dL_built_864 : decode cL_built 864 = .ok (.ldc2_w 204, 3) := by decide +kernel
