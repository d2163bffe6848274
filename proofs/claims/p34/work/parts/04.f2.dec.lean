theorem dL_follows_636 : decode cL_follows 636 = .ok (.istore 7, 2) := by decide +kernel
theorem dL_follows_638 : decode cL_follows 638 = .ok (.aload_n 0, 1) := by decide +kernel
theorem dL_follows_639 : decode cL_follows 639 = .ok (.iload 16, 2) := by decide +kernel
theorem dL_follows_641 : decode cL_follows 641 = .ok (.iload 17, 2) := by decide +kernel
theorem dL_follows_643 : decode cL_follows 643 = .ok (.iconst 3, 1) := by decide +kernel
theorem dL_follows_644 : decode cL_follows 644 = .ok (.invokestatic 134, 3) := by decide +kernel
theorem dL_follows_647 : decode cL_follows 647 = .ok (.lstore 23, 2) := by decide +kernel
theorem dL_follows_649 : decode cL_follows 649 = .ok (.aload_n 0, 1) := by decide +kernel
theorem dL_follows_650 : decode cL_follows 650 = .ok (.bipush 7, 2) := by decide +kernel
theorem dL_follows_652 : decode cL_follows 652 = .ok (.invokestatic 109, 3) := by decide +kernel
theorem dL_follows_655 : decode cL_follows 655 = .ok (.lstore 25, 2) := by decide +kernel
theorem dL_follows_657 : decode cL_follows 657 = .ok (.aload_n 0, 1) := by decide +kernel
theorem dL_follows_658 : decode cL_follows 658 = .ok (.iload 16, 2) := by decide +kernel
theorem dL_follows_660 : decode cL_follows 660 = .ok (.iload 17, 2) := by decide +kernel
theorem dL_follows_662 : decode cL_follows 662 = .ok (.iconst 1, 1) := by decide +kernel
theorem dL_follows_663 : decode cL_follows 663 = .ok (.invokestatic 134, 3) := by decide +kernel
theorem dL_follows_666 : decode cL_follows 666 = .ok (.lconst 0, 1) := by decide +kernel
theorem dL_follows_667 : decode cL_follows 667 = .ok (.lcmp, 1) := by decide +kernel
theorem dL_follows_668 : decode cL_follows 668 = .ok (.ifCond .le 137, 3) := by decide +kernel
theorem dL_follows_671 : decode cL_follows 671 = .ok (.lload 23, 2) := by decide +kernel
theorem dL_follows_673 : decode cL_follows 673 = .ok (.ldc2_w 204, 3) := by decide +kernel
theorem dL_follows_676 : decode cL_follows 676 = .ok (.lcmp, 1) := by decide +kernel
theorem dL_follows_677 : decode cL_follows 677 = .ok (.ifCond .ne 12, 3) := by decide +kernel
theorem dL_follows_680 : decode cL_follows 680 = .ok (.lload 25, 2) := by decide +kernel
theorem dL_follows_682 : decode cL_follows 682 = .ok (.ldc2_w 212, 3) := by decide +kernel
theorem dL_follows_685 : decode cL_follows 685 = .ok (.lcmp, 1) := by decide +kernel
theorem dL_follows_686 : decode cL_follows 686 = .ok (.ifCond .ge 119, 3) := by decide +kernel
theorem dL_follows_689 : decode cL_follows 689 = .ok (.iload 7, 2) := by decide +kernel
theorem dL_follows_691 : decode cL_follows 691 = .ok (.ifCond .eq 114, 3) := by decide +kernel
theorem dL_follows_694 : decode cL_follows 694 = .ok (.aload_n 0, 1) := by decide +kernel
theorem dL_follows_695 : decode cL_follows 695 = .ok (.iload 16, 2) := by decide +kernel
theorem dL_follows_697 : decode cL_follows 697 = .ok (.iload 17, 2) := by decide +kernel
theorem dL_follows_699 : decode cL_follows 699 = .ok (.invokestatic 190, 3) := by decide +kernel
theorem dL_follows_702 : decode cL_follows 702 = .ok (.lload 25, 2) := by decide +kernel
theorem dL_follows_704 : decode cL_follows 704 = .ok (.lload 23, 2) := by decide +kernel
theorem dL_follows_706 : decode cL_follows 706 = .ok (.ldc2_w 204, 3) := by decide +kernel
theorem dL_follows_709 : decode cL_follows 709 = .ok (.lcmp, 1) := by decide +kernel
theorem dL_follows_710 : decode cL_follows 710 = .ok (.ifCond .ne 7, 3) := by decide +kernel
theorem dL_follows_713 : decode cL_follows 713 = .ok (.lconst 1, 1) := by decide +kernel
theorem dL_follows_714 : decode cL_follows 714 = .ok (.goto 4, 3) := by decide +kernel
theorem dL_follows_717 : decode cL_follows 717 = .ok (.lconst 0, 1) := by decide +kernel
theorem dL_follows_718 : decode cL_follows 718 = .ok (.ladd, 1) := by decide +kernel
theorem dL_follows_719 : decode cL_follows 719 = .ok (.lcmp, 1) := by decide +kernel
theorem dL_follows_720 : decode cL_follows 720 = .ok (.ifCond .ne 82, 3) := by decide +kernel
theorem dL_follows_723 : decode cL_follows 723 = .ok (.aload_n 0, 1) := by decide +kernel
theorem dL_follows_724 : decode cL_follows 724 = .ok (.iload 16, 2) := by decide +kernel
theorem dL_follows_726 : decode cL_follows 726 = .ok (.iload 17, 2) := by decide +kernel
theorem dL_follows_728 : decode cL_follows 728 = .ok (.iconst 3, 1) := by decide +kernel
theorem dL_follows_729 : decode cL_follows 729 = .ok (.invokestatic 134, 3) := by decide +kernel
theorem dL_follows_732 : decode cL_follows 732 = .ok (.ldc2_w 204, 3) := by decide +kernel
theorem dL_follows_735 : decode cL_follows 735 = .ok (.lcmp, 1) := by decide +kernel
theorem dL_follows_736 : decode cL_follows 736 = .ok (.ifCond .eq 66, 3) := by decide +kernel
theorem dL_follows_739 : decode cL_follows 739 = .ok (.aload_n 0, 1) := by decide +kernel
theorem dL_follows_740 : decode cL_follows 740 = .ok (.aload_n 0, 1) := by decide +kernel
theorem dL_follows_741 : decode cL_follows 741 = .ok (.iload 16, 2) := by decide +kernel
theorem dL_follows_743 : decode cL_follows 743 = .ok (.iload 17, 2) := by decide +kernel
theorem dL_follows_745 : decode cL_follows 745 = .ok (.iconst 3, 1) := by decide +kernel
theorem dL_follows_746 : decode cL_follows 746 = .ok (.invokestatic 134, 3) := by decide +kernel
theorem dL_follows_749 : decode cL_follows 749 = .ok (.l2i, 1) := by decide +kernel
theorem dL_follows_750 : decode cL_follows 750 = .ok (.iconst 1, 1) := by decide +kernel
theorem dL_follows_751 : decode cL_follows 751 = .ok (.iconst 0, 1) := by decide +kernel
theorem dL_follows_752 : decode cL_follows 752 = .ok (.invokestatic 139, 3) := by decide +kernel
theorem dL_follows_755 : decode cL_follows 755 = .ok (.aload_n 0, 1) := by decide +kernel
theorem dL_follows_756 : decode cL_follows 756 = .ok (.iload 16, 2) := by decide +kernel
theorem dL_follows_758 : decode cL_follows 758 = .ok (.iload 17, 2) := by decide +kernel
theorem dL_follows_760 : decode cL_follows 760 = .ok (.iconst 1, 1) := by decide +kernel
theorem dL_follows_761 : decode cL_follows 761 = .ok (.iconst 0, 1) := by decide +kernel
theorem dL_follows_762 : decode cL_follows 762 = .ok (.invokestatic 127, 3) := by decide +kernel
theorem dL_follows_765 : decode cL_follows 765 = .ok (.lcmp, 1) := by decide +kernel
theorem dL_follows_766 : decode cL_follows 766 = .ok (.ifCond .ne 36, 3) := by decide +kernel
theorem dL_follows_769 : decode cL_follows 769 = .ok (.aload_n 0, 1) := by decide +kernel
theorem dL_follows_770 : decode cL_follows 770 = .ok (.bipush 8, 2) := by decide +kernel
theorem dL_follows_772 : decode cL_follows 772 = .ok (.invokestatic 109, 3) := by decide +kernel
theorem dL_follows_775 : decode cL_follows 775 = .ok (.lconst 0, 1) := by decide +kernel
theorem dL_follows_776 : decode cL_follows 776 = .ok (.lcmp, 1) := by decide +kernel
theorem dL_follows_777 : decode cL_follows 777 = .ok (.ifCond .lt 25, 3) := by decide +kernel
theorem dL_follows_780 : decode cL_follows 780 = .ok (.aload_n 0, 1) := by decide +kernel
theorem dL_follows_781 : decode cL_follows 781 = .ok (.invokestatic 216, 3) := by decide +kernel
theorem dL_follows_784 : decode cL_follows 784 = .ok (.lconst 0, 1) := by decide +kernel
theorem dL_follows_785 : decode cL_follows 785 = .ok (.lcmp, 1) := by decide +kernel
theorem dL_follows_786 : decode cL_follows 786 = .ok (.ifCond .lt 16, 3) := by decide +kernel
theorem dL_follows_789 : decode cL_follows 789 = .ok (.aload_n 0, 1) := by decide +kernel
theorem dL_follows_790 : decode cL_follows 790 = .ok (.invokestatic 142, 3) := by decide +kernel
theorem dL_follows_793 : decode cL_follows 793 = .ok (.lload_n 2, 1) := by decide +kernel
theorem dL_follows_794 : decode cL_follows 794 = .ok (.lcmp, 1) := by decide +kernel
theorem dL_follows_795 : decode cL_follows 795 = .ok (.ifCond .ne 7, 3) := by decide +kernel
theorem dL_follows_798 : decode cL_follows 798 = .ok (.iconst 1, 1) := by decide +kernel
theorem dL_follows_799 : decode cL_follows 799 = .ok (.goto 4, 3) := by decide +kernel
theorem dL_follows_802 : decode cL_follows 802 = .ok (.iconst 0, 1) := by decide +kernel
theorem dL_follows_803 : decode cL_follows 803 = .ok (.istore 7, 2) := by decide +kernel
theorem dL_follows_805 : decode cL_follows 805 = .ok (.lload 23, 2) := by decide +kernel
theorem dL_follows_807 : decode cL_follows 807 = .ok (.ldc2_w 204, 3) := by decide +kernel
theorem dL_follows_810 : decode cL_follows 810 = .ok (.lcmp, 1) := by decide +kernel
theorem dL_follows_811 : decode cL_follows 811 = .ok (.ifCond .eq 64, 3) := by decide +kernel
theorem dL_follows_814 : decode cL_follows 814 = .ok (.iload 7, 2) := by decide +kernel
theorem dL_follows_816 : decode cL_follows 816 = .ok (.ifCond .eq 59, 3) := by decide +kernel
theorem dL_follows_819 : decode cL_follows 819 = .ok (.aload_n 0, 1) := by decide +kernel
theorem dL_follows_820 : decode cL_follows 820 = .ok (.lload 23, 2) := by decide +kernel
theorem dL_follows_822 : decode cL_follows 822 = .ok (.l2i, 1) := by decide +kernel
theorem dL_follows_823 : decode cL_follows 823 = .ok (.invokestatic 192, 3) := by decide +kernel
theorem dL_follows_826 : decode cL_follows 826 = .ok (.lload 25, 2) := by decide +kernel
theorem dL_follows_828 : decode cL_follows 828 = .ok (.lconst 1, 1) := by decide +kernel
theorem dL_follows_829 : decode cL_follows 829 = .ok (.lsub, 1) := by decide +kernel
theorem dL_follows_830 : decode cL_follows 830 = .ok (.lcmp, 1) := by decide +kernel
theorem dL_follows_831 : decode cL_follows 831 = .ok (.ifCond .ne 41, 3) := by decide +kernel
theorem dL_follows_834 : decode cL_follows 834 = .ok (.aload_n 0, 1) := by decide +kernel
theorem dL_follows_835 : decode cL_follows 835 = .ok (.iload 16, 2) := by decide +kernel
theorem dL_follows_837 : decode cL_follows 837 = .ok (.iload 17, 2) := by decide +kernel
theorem dL_follows_839 : decode cL_follows 839 = .ok (.iconst 3, 1) := by decide +kernel
theorem dL_follows_840 : decode cL_follows 840 = .ok (.invokestatic 134, 3) := by decide +kernel
theorem dL_follows_843 : decode cL_follows 843 = .ok (.ldc2_w 204, 3) := by decide +kernel
theorem dL_follows_846 : decode cL_follows 846 = .ok (.lcmp, 1) := by decide +kernel
theorem dL_follows_847 : decode cL_follows 847 = .ok (.ifCond .ne 25, 3) := by decide +kernel
theorem dL_follows_850 : decode cL_follows 850 = .ok (.aload_n 0, 1) := by decide +kernel
theorem dL_follows_851 : decode cL_follows 851 = .ok (.invokestatic 216, 3) := by decide +kernel
theorem dL_follows_854 : decode cL_follows 854 = .ok (.lconst 0, 1) := by decide +kernel
theorem dL_follows_855 : decode cL_follows 855 = .ok (.lcmp, 1) := by decide +kernel
theorem dL_follows_856 : decode cL_follows 856 = .ok (.ifCond .lt 16, 3) := by decide +kernel
theorem dL_follows_859 : decode cL_follows 859 = .ok (.aload_n 0, 1) := by decide +kernel
theorem dL_follows_860 : decode cL_follows 860 = .ok (.invokestatic 142, 3) := by decide +kernel
theorem dL_follows_863 : decode cL_follows 863 = .ok (.lload_n 2, 1) := by decide +kernel
theorem dL_follows_864 : decode cL_follows 864 = .ok (.lcmp, 1) := by decide +kernel
theorem dL_follows_865 : decode cL_follows 865 = .ok (.ifCond .ne 7, 3) := by decide +kernel
theorem dL_follows_868 : decode cL_follows 868 = .ok (.iconst 1, 1) := by decide +kernel
theorem dL_follows_869 : decode cL_follows 869 = .ok (.goto 4, 3) := by decide +kernel
theorem dL_follows_872 : decode cL_follows 872 = .ok (.iconst 0, 1) := by decide +kernel
theorem dL_follows_873 : decode cL_follows 873 = .ok (.istore 7, 2) := by decide +kernel
theorem dL_follows_875 : decode cL_follows 875 = .ok (.iload 7, 2) := by decide +kernel
theorem dL_follows_877 : decode cL_follows 877 = .ok (.ifCond .eq 40, 3) := by decide +kernel
theorem dL_follows_880 : decode cL_follows 880 = .ok (.aload_n 0, 1) := by decide +kernel
theorem dL_follows_881 : decode cL_follows 881 = .ok (.iload 16, 2) := by decide +kernel
theorem dL_follows_883 : decode cL_follows 883 = .ok (.invokestatic 178, 3) := by decide +kernel
theorem dL_follows_886 : decode cL_follows 886 = .ok (.iload 4, 2) := by decide +kernel
theorem dL_follows_888 : decode cL_follows 888 = .ok (.i2l, 1) := by decide +kernel
theorem dL_follows_889 : decode cL_follows 889 = .ok (.lconst 1, 1) := by decide +kernel
theorem dL_follows_890 : decode cL_follows 890 = .ok (.lsub, 1) := by decide +kernel
theorem dL_follows_891 : decode cL_follows 891 = .ok (.lcmp, 1) := by decide +kernel
theorem dL_follows_892 : decode cL_follows 892 = .ok (.ifCond .ne 25, 3) := by decide +kernel
theorem dL_follows_895 : decode cL_follows 895 = .ok (.aload_n 0, 1) := by decide +kernel
theorem dL_follows_896 : decode cL_follows 896 = .ok (.invokestatic 216, 3) := by decide +kernel
theorem dL_follows_899 : decode cL_follows 899 = .ok (.lconst 0, 1) := by decide +kernel
theorem dL_follows_900 : decode cL_follows 900 = .ok (.lcmp, 1) := by decide +kernel
theorem dL_follows_901 : decode cL_follows 901 = .ok (.ifCond .lt 16, 3) := by decide +kernel
theorem dL_follows_904 : decode cL_follows 904 = .ok (.aload_n 0, 1) := by decide +kernel
theorem dL_follows_905 : decode cL_follows 905 = .ok (.invokestatic 142, 3) := by decide +kernel
theorem dL_follows_908 : decode cL_follows 908 = .ok (.lload_n 2, 1) := by decide +kernel
theorem dL_follows_909 : decode cL_follows 909 = .ok (.lcmp, 1) := by decide +kernel
theorem dL_follows_910 : decode cL_follows 910 = .ok (.ifCond .ne 7, 3) := by decide +kernel
theorem dL_follows_913 : decode cL_follows 913 = .ok (.iconst 1, 1) := by decide +kernel
theorem dL_follows_914 : decode cL_follows 914 = .ok (.goto 4, 3) := by decide +kernel
theorem dL_follows_917 : decode cL_follows 917 = .ok (.iconst 0, 1) := by decide +kernel
theorem dL_follows_918 : decode cL_follows 918 = .ok (.istore 7, 2) := by decide +kernel
theorem dL_follows_920 : decode cL_follows 920 = .ok (.iload 7, 2) := by decide +kernel
theorem dL_follows_922 : decode cL_follows 922 = .ok (.ifCond .eq 39, 3) := by decide +kernel
theorem dL_follows_925 : decode cL_follows 925 = .ok (.aload_n 0, 1) := by decide +kernel
theorem dL_follows_926 : decode cL_follows 926 = .ok (.iconst 1, 1) := by decide +kernel
theorem dL_follows_927 : decode cL_follows 927 = .ok (.invokestatic 196, 3) := by decide +kernel
theorem dL_follows_930 : decode cL_follows 930 = .ok (.iload 4, 2) := by decide +kernel
theorem dL_follows_932 : decode cL_follows 932 = .ok (.i2l, 1) := by decide +kernel
theorem dL_follows_933 : decode cL_follows 933 = .ok (.lcmp, 1) := by decide +kernel
theorem dL_follows_934 : decode cL_follows 934 = .ok (.ifCond .ne 27, 3) := by decide +kernel
theorem dL_follows_937 : decode cL_follows 937 = .ok (.aload_n 0, 1) := by decide +kernel
theorem dL_follows_938 : decode cL_follows 938 = .ok (.invokestatic 142, 3) := by decide +kernel
theorem dL_follows_941 : decode cL_follows 941 = .ok (.lload_n 2, 1) := by decide +kernel
theorem dL_follows_942 : decode cL_follows 942 = .ok (.lcmp, 1) := by decide +kernel
theorem dL_follows_943 : decode cL_follows 943 = .ok (.ifCond .ne 18, 3) := by decide +kernel
theorem dL_follows_946 : decode cL_follows 946 = .ok (.aload_n 0, 1) := by decide +kernel
theorem dL_follows_947 : decode cL_follows 947 = .ok (.invokestatic 216, 3) := by decide +kernel
theorem dL_follows_950 : decode cL_follows 950 = .ok (.ldc2_w 21, 3) := by decide +kernel
theorem dL_follows_953 : decode cL_follows 953 = .ok (.lcmp, 1) := by decide +kernel
theorem dL_follows_954 : decode cL_follows 954 = .ok (.ifCond .ne 7, 3) := by decide +kernel
theorem dL_follows_957 : decode cL_follows 957 = .ok (.iconst 1, 1) := by decide +kernel
theorem dL_follows_958 : decode cL_follows 958 = .ok (.goto 4, 3) := by decide +kernel
theorem dL_follows_961 : decode cL_follows 961 = .ok (.iconst 0, 1) := by decide +kernel
theorem dL_follows_962 : decode cL_follows 962 = .ok (.ireturn, 1) := by decide +kernel
