/-! the law: its instructions (printed) -/
theorem dL_law_649 : decode cL_law 649 = .ok (.aload_n 0, 1) := by decide +kernel
theorem dL_law_650 : decode cL_law 650 = .ok (.iload 4, 2) := by decide +kernel
theorem dL_law_652 : decode cL_law 652 = .ok (.iconst 2, 1) := by decide +kernel
theorem dL_law_653 : decode cL_law 653 = .ok (.iadd, 1) := by decide +kernel
theorem dL_law_654 : decode cL_law 654 = .ok (.iaload, 1) := by decide +kernel
theorem dL_law_655 : decode cL_law 655 = .ok (.aload_n 0, 1) := by decide +kernel
theorem dL_law_656 : decode cL_law 656 = .ok (.iload 4, 2) := by decide +kernel
theorem dL_law_658 : decode cL_law 658 = .ok (.iconst 3, 1) := by decide +kernel
theorem dL_law_659 : decode cL_law 659 = .ok (.iadd, 1) := by decide +kernel
theorem dL_law_660 : decode cL_law 660 = .ok (.iaload, 1) := by decide +kernel
theorem dL_law_661 : decode cL_law 661 = .ok (.aload_n 0, 1) := by decide +kernel
theorem dL_law_662 : decode cL_law 662 = .ok (.iload 4, 2) := by decide +kernel
theorem dL_law_664 : decode cL_law 664 = .ok (.iconst 4, 1) := by decide +kernel
theorem dL_law_665 : decode cL_law 665 = .ok (.iadd, 1) := by decide +kernel
theorem dL_law_666 : decode cL_law 666 = .ok (.iaload, 1) := by decide +kernel
theorem dL_law_667 : decode cL_law 667 = .ok (.invokevirtual 77, 3) := by decide +kernel
theorem dL_law_670 : decode cL_law 670 = .ok (.aload_n 2, 1) := by decide +kernel
theorem dL_law_671 : decode cL_law 671 = .ok (.aload_n 0, 1) := by decide +kernel
theorem dL_law_672 : decode cL_law 672 = .ok (.iload 4, 2) := by decide +kernel
theorem dL_law_674 : decode cL_law 674 = .ok (.iconst 1, 1) := by decide +kernel
theorem dL_law_675 : decode cL_law 675 = .ok (.iadd, 1) := by decide +kernel
theorem dL_law_676 : decode cL_law 676 = .ok (.iaload, 1) := by decide +kernel
theorem dL_law_677 : decode cL_law 677 = .ok (.aload_n 0, 1) := by decide +kernel
theorem dL_law_678 : decode cL_law 678 = .ok (.iload 4, 2) := by decide +kernel
theorem dL_law_680 : decode cL_law 680 = .ok (.iconst 2, 1) := by decide +kernel
theorem dL_law_681 : decode cL_law 681 = .ok (.iadd, 1) := by decide +kernel
theorem dL_law_682 : decode cL_law 682 = .ok (.iaload, 1) := by decide +kernel
theorem dL_law_683 : decode cL_law 683 = .ok (.aload_n 0, 1) := by decide +kernel
theorem dL_law_684 : decode cL_law 684 = .ok (.iload 4, 2) := by decide +kernel
theorem dL_law_686 : decode cL_law 686 = .ok (.iconst 3, 1) := by decide +kernel
theorem dL_law_687 : decode cL_law 687 = .ok (.iadd, 1) := by decide +kernel
theorem dL_law_688 : decode cL_law 688 = .ok (.iaload, 1) := by decide +kernel
theorem dL_law_689 : decode cL_law 689 = .ok (.aload_n 0, 1) := by decide +kernel
theorem dL_law_690 : decode cL_law 690 = .ok (.iload 4, 2) := by decide +kernel
theorem dL_law_692 : decode cL_law 692 = .ok (.iconst 4, 1) := by decide +kernel
theorem dL_law_693 : decode cL_law 693 = .ok (.iadd, 1) := by decide +kernel
theorem dL_law_694 : decode cL_law 694 = .ok (.iaload, 1) := by decide +kernel
theorem dL_law_695 : decode cL_law 695 = .ok (.invokevirtual 80, 3) := by decide +kernel
theorem dL_law_698 : decode cL_law 698 = .ok (.if_icmp .eq 865, 3) := by decide +kernel
theorem dL_law_701 : decode cL_law 701 = .ok (.iconst 0, 1) := by decide +kernel
theorem dL_law_702 : decode cL_law 702 = .ok (.ireturn, 1) := by decide +kernel
theorem dL_law_703 : decode cL_law 703 = .ok (.aload_n 1, 1) := by decide +kernel
theorem dL_law_704 : decode cL_law 704 = .ok (.aload_n 0, 1) := by decide +kernel
theorem dL_law_705 : decode cL_law 705 = .ok (.iload 4, 2) := by decide +kernel
theorem dL_law_707 : decode cL_law 707 = .ok (.iconst 1, 1) := by decide +kernel
theorem dL_law_708 : decode cL_law 708 = .ok (.iadd, 1) := by decide +kernel
theorem dL_law_709 : decode cL_law 709 = .ok (.iaload, 1) := by decide +kernel
theorem dL_law_710 : decode cL_law 710 = .ok (.aload_n 0, 1) := by decide +kernel
theorem dL_law_711 : decode cL_law 711 = .ok (.iload 4, 2) := by decide +kernel
theorem dL_law_713 : decode cL_law 713 = .ok (.iconst 2, 1) := by decide +kernel
theorem dL_law_714 : decode cL_law 714 = .ok (.iadd, 1) := by decide +kernel
theorem dL_law_715 : decode cL_law 715 = .ok (.iaload, 1) := by decide +kernel
theorem dL_law_716 : decode cL_law 716 = .ok (.aload_n 0, 1) := by decide +kernel
theorem dL_law_717 : decode cL_law 717 = .ok (.iload 4, 2) := by decide +kernel
theorem dL_law_719 : decode cL_law 719 = .ok (.iconst 3, 1) := by decide +kernel
theorem dL_law_720 : decode cL_law 720 = .ok (.iadd, 1) := by decide +kernel
theorem dL_law_721 : decode cL_law 721 = .ok (.iaload, 1) := by decide +kernel
theorem dL_law_722 : decode cL_law 722 = .ok (.aload_n 0, 1) := by decide +kernel
theorem dL_law_723 : decode cL_law 723 = .ok (.iload 4, 2) := by decide +kernel
theorem dL_law_725 : decode cL_law 725 = .ok (.iconst 4, 1) := by decide +kernel
theorem dL_law_726 : decode cL_law 726 = .ok (.iadd, 1) := by decide +kernel
theorem dL_law_727 : decode cL_law 727 = .ok (.iaload, 1) := by decide +kernel
theorem dL_law_728 : decode cL_law 728 = .ok (.invokevirtual 81, 3) := by decide +kernel
theorem dL_law_731 : decode cL_law 731 = .ok (.aload_n 2, 1) := by decide +kernel
theorem dL_law_732 : decode cL_law 732 = .ok (.aload_n 0, 1) := by decide +kernel
theorem dL_law_733 : decode cL_law 733 = .ok (.iload 4, 2) := by decide +kernel
theorem dL_law_735 : decode cL_law 735 = .ok (.iconst 1, 1) := by decide +kernel
theorem dL_law_736 : decode cL_law 736 = .ok (.iadd, 1) := by decide +kernel
theorem dL_law_737 : decode cL_law 737 = .ok (.iaload, 1) := by decide +kernel
theorem dL_law_738 : decode cL_law 738 = .ok (.aload_n 0, 1) := by decide +kernel
theorem dL_law_739 : decode cL_law 739 = .ok (.iload 4, 2) := by decide +kernel
theorem dL_law_741 : decode cL_law 741 = .ok (.iconst 2, 1) := by decide +kernel
theorem dL_law_742 : decode cL_law 742 = .ok (.iadd, 1) := by decide +kernel
theorem dL_law_743 : decode cL_law 743 = .ok (.iaload, 1) := by decide +kernel
theorem dL_law_744 : decode cL_law 744 = .ok (.aload_n 0, 1) := by decide +kernel
theorem dL_law_745 : decode cL_law 745 = .ok (.iload 4, 2) := by decide +kernel
theorem dL_law_747 : decode cL_law 747 = .ok (.iconst 3, 1) := by decide +kernel
theorem dL_law_748 : decode cL_law 748 = .ok (.iadd, 1) := by decide +kernel
theorem dL_law_749 : decode cL_law 749 = .ok (.iaload, 1) := by decide +kernel
theorem dL_law_750 : decode cL_law 750 = .ok (.aload_n 0, 1) := by decide +kernel
theorem dL_law_751 : decode cL_law 751 = .ok (.iload 4, 2) := by decide +kernel
theorem dL_law_753 : decode cL_law 753 = .ok (.iconst 4, 1) := by decide +kernel
theorem dL_law_754 : decode cL_law 754 = .ok (.iadd, 1) := by decide +kernel
theorem dL_law_755 : decode cL_law 755 = .ok (.iaload, 1) := by decide +kernel
theorem dL_law_756 : decode cL_law 756 = .ok (.invokevirtual 84, 3) := by decide +kernel
theorem dL_law_759 : decode cL_law 759 = .ok (.if_icmp .eq 804, 3) := by decide +kernel
theorem dL_law_762 : decode cL_law 762 = .ok (.iconst 0, 1) := by decide +kernel
theorem dL_law_763 : decode cL_law 763 = .ok (.ireturn, 1) := by decide +kernel
theorem dL_law_764 : decode cL_law 764 = .ok (.aload_n 1, 1) := by decide +kernel
theorem dL_law_765 : decode cL_law 765 = .ok (.aload_n 0, 1) := by decide +kernel
theorem dL_law_766 : decode cL_law 766 = .ok (.iload 4, 2) := by decide +kernel
theorem dL_law_768 : decode cL_law 768 = .ok (.iconst 1, 1) := by decide +kernel
theorem dL_law_769 : decode cL_law 769 = .ok (.iadd, 1) := by decide +kernel
theorem dL_law_770 : decode cL_law 770 = .ok (.iaload, 1) := by decide +kernel
theorem dL_law_771 : decode cL_law 771 = .ok (.aload_n 0, 1) := by decide +kernel
theorem dL_law_772 : decode cL_law 772 = .ok (.iload 4, 2) := by decide +kernel
theorem dL_law_774 : decode cL_law 774 = .ok (.iconst 2, 1) := by decide +kernel
theorem dL_law_775 : decode cL_law 775 = .ok (.iadd, 1) := by decide +kernel
theorem dL_law_776 : decode cL_law 776 = .ok (.iaload, 1) := by decide +kernel
theorem dL_law_777 : decode cL_law 777 = .ok (.aload_n 0, 1) := by decide +kernel
theorem dL_law_778 : decode cL_law 778 = .ok (.iload 4, 2) := by decide +kernel
theorem dL_law_780 : decode cL_law 780 = .ok (.iconst 3, 1) := by decide +kernel
theorem dL_law_781 : decode cL_law 781 = .ok (.iadd, 1) := by decide +kernel
theorem dL_law_782 : decode cL_law 782 = .ok (.iaload, 1) := by decide +kernel
theorem dL_law_783 : decode cL_law 783 = .ok (.aload_n 0, 1) := by decide +kernel
theorem dL_law_784 : decode cL_law 784 = .ok (.iload 4, 2) := by decide +kernel
theorem dL_law_786 : decode cL_law 786 = .ok (.iconst 4, 1) := by decide +kernel
theorem dL_law_787 : decode cL_law 787 = .ok (.iadd, 1) := by decide +kernel
theorem dL_law_788 : decode cL_law 788 = .ok (.iaload, 1) := by decide +kernel
theorem dL_law_789 : decode cL_law 789 = .ok (.invokevirtual 85, 3) := by decide +kernel
theorem dL_law_792 : decode cL_law 792 = .ok (.aload_n 2, 1) := by decide +kernel
theorem dL_law_793 : decode cL_law 793 = .ok (.aload_n 0, 1) := by decide +kernel
theorem dL_law_794 : decode cL_law 794 = .ok (.iload 4, 2) := by decide +kernel
theorem dL_law_796 : decode cL_law 796 = .ok (.iconst 1, 1) := by decide +kernel
theorem dL_law_797 : decode cL_law 797 = .ok (.iadd, 1) := by decide +kernel
theorem dL_law_798 : decode cL_law 798 = .ok (.iaload, 1) := by decide +kernel
theorem dL_law_799 : decode cL_law 799 = .ok (.aload_n 0, 1) := by decide +kernel
theorem dL_law_800 : decode cL_law 800 = .ok (.iload 4, 2) := by decide +kernel
theorem dL_law_802 : decode cL_law 802 = .ok (.iconst 2, 1) := by decide +kernel
theorem dL_law_803 : decode cL_law 803 = .ok (.iadd, 1) := by decide +kernel
theorem dL_law_804 : decode cL_law 804 = .ok (.iaload, 1) := by decide +kernel
theorem dL_law_805 : decode cL_law 805 = .ok (.aload_n 0, 1) := by decide +kernel
theorem dL_law_806 : decode cL_law 806 = .ok (.iload 4, 2) := by decide +kernel
theorem dL_law_808 : decode cL_law 808 = .ok (.iconst 3, 1) := by decide +kernel
theorem dL_law_809 : decode cL_law 809 = .ok (.iadd, 1) := by decide +kernel
theorem dL_law_810 : decode cL_law 810 = .ok (.iaload, 1) := by decide +kernel
theorem dL_law_811 : decode cL_law 811 = .ok (.aload_n 0, 1) := by decide +kernel
theorem dL_law_812 : decode cL_law 812 = .ok (.iload 4, 2) := by decide +kernel
theorem dL_law_814 : decode cL_law 814 = .ok (.iconst 4, 1) := by decide +kernel
theorem dL_law_815 : decode cL_law 815 = .ok (.iadd, 1) := by decide +kernel
theorem dL_law_816 : decode cL_law 816 = .ok (.iaload, 1) := by decide +kernel
theorem dL_law_817 : decode cL_law 817 = .ok (.invokevirtual 88, 3) := by decide +kernel
theorem dL_law_820 : decode cL_law 820 = .ok (.if_icmp .eq 743, 3) := by decide +kernel
theorem dL_law_823 : decode cL_law 823 = .ok (.iconst 0, 1) := by decide +kernel
theorem dL_law_824 : decode cL_law 824 = .ok (.ireturn, 1) := by decide +kernel
theorem dL_law_825 : decode cL_law 825 = .ok (.aload_n 1, 1) := by decide +kernel
theorem dL_law_826 : decode cL_law 826 = .ok (.aload_n 0, 1) := by decide +kernel
theorem dL_law_827 : decode cL_law 827 = .ok (.iload 4, 2) := by decide +kernel
theorem dL_law_829 : decode cL_law 829 = .ok (.iconst 1, 1) := by decide +kernel
theorem dL_law_830 : decode cL_law 830 = .ok (.iadd, 1) := by decide +kernel
theorem dL_law_831 : decode cL_law 831 = .ok (.iaload, 1) := by decide +kernel
theorem dL_law_832 : decode cL_law 832 = .ok (.aload_n 0, 1) := by decide +kernel
theorem dL_law_833 : decode cL_law 833 = .ok (.iload 4, 2) := by decide +kernel
theorem dL_law_835 : decode cL_law 835 = .ok (.iconst 2, 1) := by decide +kernel
theorem dL_law_836 : decode cL_law 836 = .ok (.iadd, 1) := by decide +kernel
theorem dL_law_837 : decode cL_law 837 = .ok (.iaload, 1) := by decide +kernel
theorem dL_law_838 : decode cL_law 838 = .ok (.aload_n 0, 1) := by decide +kernel
theorem dL_law_839 : decode cL_law 839 = .ok (.iload 4, 2) := by decide +kernel
theorem dL_law_841 : decode cL_law 841 = .ok (.iconst 3, 1) := by decide +kernel
theorem dL_law_842 : decode cL_law 842 = .ok (.iadd, 1) := by decide +kernel
theorem dL_law_843 : decode cL_law 843 = .ok (.iaload, 1) := by decide +kernel
theorem dL_law_844 : decode cL_law 844 = .ok (.invokevirtual 89, 3) := by decide +kernel
theorem dL_law_847 : decode cL_law 847 = .ok (.aload_n 2, 1) := by decide +kernel
theorem dL_law_848 : decode cL_law 848 = .ok (.aload_n 0, 1) := by decide +kernel
theorem dL_law_849 : decode cL_law 849 = .ok (.iload 4, 2) := by decide +kernel
theorem dL_law_851 : decode cL_law 851 = .ok (.iconst 1, 1) := by decide +kernel
theorem dL_law_852 : decode cL_law 852 = .ok (.iadd, 1) := by decide +kernel
theorem dL_law_853 : decode cL_law 853 = .ok (.iaload, 1) := by decide +kernel
theorem dL_law_854 : decode cL_law 854 = .ok (.aload_n 0, 1) := by decide +kernel
theorem dL_law_855 : decode cL_law 855 = .ok (.iload 4, 2) := by decide +kernel
theorem dL_law_857 : decode cL_law 857 = .ok (.iconst 2, 1) := by decide +kernel
theorem dL_law_858 : decode cL_law 858 = .ok (.iadd, 1) := by decide +kernel
theorem dL_law_859 : decode cL_law 859 = .ok (.iaload, 1) := by decide +kernel
theorem dL_law_860 : decode cL_law 860 = .ok (.aload_n 0, 1) := by decide +kernel
theorem dL_law_861 : decode cL_law 861 = .ok (.iload 4, 2) := by decide +kernel
theorem dL_law_863 : decode cL_law 863 = .ok (.iconst 3, 1) := by decide +kernel
theorem dL_law_864 : decode cL_law 864 = .ok (.iadd, 1) := by decide +kernel
theorem dL_law_865 : decode cL_law 865 = .ok (.iaload, 1) := by decide +kernel
theorem dL_law_866 : decode cL_law 866 = .ok (.invokevirtual 92, 3) := by decide +kernel
theorem dL_law_869 : decode cL_law 869 = .ok (.if_icmp .eq 694, 3) := by decide +kernel
theorem dL_law_872 : decode cL_law 872 = .ok (.iconst 0, 1) := by decide +kernel
theorem dL_law_873 : decode cL_law 873 = .ok (.ireturn, 1) := by decide +kernel
theorem dL_law_874 : decode cL_law 874 = .ok (.aload_n 1, 1) := by decide +kernel
theorem dL_law_875 : decode cL_law 875 = .ok (.aload_n 0, 1) := by decide +kernel
theorem dL_law_876 : decode cL_law 876 = .ok (.iload 4, 2) := by decide +kernel
theorem dL_law_878 : decode cL_law 878 = .ok (.iconst 1, 1) := by decide +kernel
theorem dL_law_879 : decode cL_law 879 = .ok (.iadd, 1) := by decide +kernel
theorem dL_law_880 : decode cL_law 880 = .ok (.iaload, 1) := by decide +kernel
theorem dL_law_881 : decode cL_law 881 = .ok (.aload_n 0, 1) := by decide +kernel
theorem dL_law_882 : decode cL_law 882 = .ok (.iload 4, 2) := by decide +kernel
