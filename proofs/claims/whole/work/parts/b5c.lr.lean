-- THE LAW: words, decode rows
theorem dl_666 : decode lw_Y.2.1 666 = .ok (.iaload, 1) := by decide +kernel
theorem dl_667 : decode lw_Y.2.1 667 = .ok (.aload_n 0, 1) := by decide +kernel
theorem dl_668 : decode lw_Y.2.1 668 = .ok (.iload_n 3, 1) := by decide +kernel
theorem dl_669 : decode lw_Y.2.1 669 = .ok (.iconst 3, 1) := by decide +kernel
theorem dl_670 : decode lw_Y.2.1 670 = .ok (.iadd, 1) := by decide +kernel
theorem dl_671 : decode lw_Y.2.1 671 = .ok (.iaload, 1) := by decide +kernel
theorem dl_672 : decode lw_Y.2.1 672 = .ok (.invokevirtual 77, 3) := by decide +kernel
theorem dl_675 : decode lw_Y.2.1 675 = .ok (.if_icmp .eq 748, 3) := by decide +kernel
theorem dl_678 : decode lw_Y.2.1 678 = .ok (.iconst 0, 1) := by decide +kernel
theorem dl_679 : decode lw_Y.2.1 679 = .ok (.ireturn, 1) := by decide +kernel
theorem dl_680 : decode lw_Y.2.1 680 = .ok (.aload_n 1, 1) := by decide +kernel
theorem dl_681 : decode lw_Y.2.1 681 = .ok (.aload_n 0, 1) := by decide +kernel
theorem dl_682 : decode lw_Y.2.1 682 = .ok (.iload_n 3, 1) := by decide +kernel
theorem dl_683 : decode lw_Y.2.1 683 = .ok (.iconst 1, 1) := by decide +kernel
theorem dl_684 : decode lw_Y.2.1 684 = .ok (.iadd, 1) := by decide +kernel
theorem dl_685 : decode lw_Y.2.1 685 = .ok (.iaload, 1) := by decide +kernel
theorem dl_686 : decode lw_Y.2.1 686 = .ok (.aload_n 0, 1) := by decide +kernel
theorem dl_687 : decode lw_Y.2.1 687 = .ok (.iload_n 3, 1) := by decide +kernel
theorem dl_688 : decode lw_Y.2.1 688 = .ok (.iconst 2, 1) := by decide +kernel
theorem dl_689 : decode lw_Y.2.1 689 = .ok (.iadd, 1) := by decide +kernel
theorem dl_690 : decode lw_Y.2.1 690 = .ok (.iaload, 1) := by decide +kernel
theorem dl_691 : decode lw_Y.2.1 691 = .ok (.aload_n 0, 1) := by decide +kernel
theorem dl_692 : decode lw_Y.2.1 692 = .ok (.iload_n 3, 1) := by decide +kernel
theorem dl_693 : decode lw_Y.2.1 693 = .ok (.iconst 3, 1) := by decide +kernel
theorem dl_694 : decode lw_Y.2.1 694 = .ok (.iadd, 1) := by decide +kernel
theorem dl_695 : decode lw_Y.2.1 695 = .ok (.iaload, 1) := by decide +kernel
theorem dl_696 : decode lw_Y.2.1 696 = .ok (.invokevirtual 78, 3) := by decide +kernel
theorem dl_699 : decode lw_Y.2.1 699 = .ok (.aload_n 2, 1) := by decide +kernel
theorem dl_700 : decode lw_Y.2.1 700 = .ok (.aload_n 0, 1) := by decide +kernel
theorem dl_701 : decode lw_Y.2.1 701 = .ok (.iload_n 3, 1) := by decide +kernel
theorem dl_702 : decode lw_Y.2.1 702 = .ok (.iconst 1, 1) := by decide +kernel
theorem dl_703 : decode lw_Y.2.1 703 = .ok (.iadd, 1) := by decide +kernel
theorem dl_704 : decode lw_Y.2.1 704 = .ok (.iaload, 1) := by decide +kernel
theorem dl_705 : decode lw_Y.2.1 705 = .ok (.aload_n 0, 1) := by decide +kernel
theorem dl_706 : decode lw_Y.2.1 706 = .ok (.iload_n 3, 1) := by decide +kernel
theorem dl_707 : decode lw_Y.2.1 707 = .ok (.iconst 2, 1) := by decide +kernel
theorem dl_708 : decode lw_Y.2.1 708 = .ok (.iadd, 1) := by decide +kernel
theorem dl_709 : decode lw_Y.2.1 709 = .ok (.iaload, 1) := by decide +kernel
theorem dl_710 : decode lw_Y.2.1 710 = .ok (.aload_n 0, 1) := by decide +kernel
theorem dl_711 : decode lw_Y.2.1 711 = .ok (.iload_n 3, 1) := by decide +kernel
theorem dl_712 : decode lw_Y.2.1 712 = .ok (.iconst 3, 1) := by decide +kernel
theorem dl_713 : decode lw_Y.2.1 713 = .ok (.iadd, 1) := by decide +kernel
theorem dl_714 : decode lw_Y.2.1 714 = .ok (.iaload, 1) := by decide +kernel
theorem dl_715 : decode lw_Y.2.1 715 = .ok (.invokevirtual 81, 3) := by decide +kernel
theorem dl_718 : decode lw_Y.2.1 718 = .ok (.if_icmp .eq 705, 3) := by decide +kernel
theorem dl_721 : decode lw_Y.2.1 721 = .ok (.iconst 0, 1) := by decide +kernel
theorem dl_722 : decode lw_Y.2.1 722 = .ok (.ireturn, 1) := by decide +kernel
theorem dl_723 : decode lw_Y.2.1 723 = .ok (.aload_n 1, 1) := by decide +kernel
theorem dl_724 : decode lw_Y.2.1 724 = .ok (.aload_n 0, 1) := by decide +kernel
theorem dl_725 : decode lw_Y.2.1 725 = .ok (.iload_n 3, 1) := by decide +kernel
theorem dl_726 : decode lw_Y.2.1 726 = .ok (.iconst 1, 1) := by decide +kernel
theorem dl_727 : decode lw_Y.2.1 727 = .ok (.iadd, 1) := by decide +kernel
theorem dl_728 : decode lw_Y.2.1 728 = .ok (.iaload, 1) := by decide +kernel
theorem dl_729 : decode lw_Y.2.1 729 = .ok (.aload_n 0, 1) := by decide +kernel
theorem dl_730 : decode lw_Y.2.1 730 = .ok (.iload_n 3, 1) := by decide +kernel
theorem dl_731 : decode lw_Y.2.1 731 = .ok (.iconst 2, 1) := by decide +kernel
theorem dl_732 : decode lw_Y.2.1 732 = .ok (.iadd, 1) := by decide +kernel
theorem dl_733 : decode lw_Y.2.1 733 = .ok (.iaload, 1) := by decide +kernel
theorem dl_734 : decode lw_Y.2.1 734 = .ok (.invokevirtual 82, 3) := by decide +kernel
theorem dl_737 : decode lw_Y.2.1 737 = .ok (.aload_n 2, 1) := by decide +kernel
theorem dl_738 : decode lw_Y.2.1 738 = .ok (.aload_n 0, 1) := by decide +kernel
theorem dl_739 : decode lw_Y.2.1 739 = .ok (.iload_n 3, 1) := by decide +kernel
theorem dl_740 : decode lw_Y.2.1 740 = .ok (.iconst 1, 1) := by decide +kernel
theorem dl_741 : decode lw_Y.2.1 741 = .ok (.iadd, 1) := by decide +kernel
theorem dl_742 : decode lw_Y.2.1 742 = .ok (.iaload, 1) := by decide +kernel
theorem dl_743 : decode lw_Y.2.1 743 = .ok (.aload_n 0, 1) := by decide +kernel
theorem dl_744 : decode lw_Y.2.1 744 = .ok (.iload_n 3, 1) := by decide +kernel
theorem dl_745 : decode lw_Y.2.1 745 = .ok (.iconst 2, 1) := by decide +kernel
theorem dl_746 : decode lw_Y.2.1 746 = .ok (.iadd, 1) := by decide +kernel
theorem dl_747 : decode lw_Y.2.1 747 = .ok (.iaload, 1) := by decide +kernel
theorem dl_748 : decode lw_Y.2.1 748 = .ok (.invokevirtual 85, 3) := by decide +kernel
theorem dl_751 : decode lw_Y.2.1 751 = .ok (.if_icmp .eq 672, 3) := by decide +kernel
theorem dl_754 : decode lw_Y.2.1 754 = .ok (.iconst 0, 1) := by decide +kernel
theorem dl_755 : decode lw_Y.2.1 755 = .ok (.ireturn, 1) := by decide +kernel
theorem dl_756 : decode lw_Y.2.1 756 = .ok (.aload_n 1, 1) := by decide +kernel
theorem dl_757 : decode lw_Y.2.1 757 = .ok (.aload_n 0, 1) := by decide +kernel
theorem dl_758 : decode lw_Y.2.1 758 = .ok (.iload_n 3, 1) := by decide +kernel
theorem dl_759 : decode lw_Y.2.1 759 = .ok (.iconst 1, 1) := by decide +kernel
theorem dl_760 : decode lw_Y.2.1 760 = .ok (.iadd, 1) := by decide +kernel
theorem dl_761 : decode lw_Y.2.1 761 = .ok (.iaload, 1) := by decide +kernel
theorem dl_762 : decode lw_Y.2.1 762 = .ok (.aload_n 0, 1) := by decide +kernel
theorem dl_763 : decode lw_Y.2.1 763 = .ok (.iload_n 3, 1) := by decide +kernel
theorem dl_764 : decode lw_Y.2.1 764 = .ok (.iconst 2, 1) := by decide +kernel
theorem dl_765 : decode lw_Y.2.1 765 = .ok (.iadd, 1) := by decide +kernel
theorem dl_766 : decode lw_Y.2.1 766 = .ok (.iaload, 1) := by decide +kernel
theorem dl_767 : decode lw_Y.2.1 767 = .ok (.invokevirtual 86, 3) := by decide +kernel
theorem dl_770 : decode lw_Y.2.1 770 = .ok (.aload_n 2, 1) := by decide +kernel
theorem dl_771 : decode lw_Y.2.1 771 = .ok (.aload_n 0, 1) := by decide +kernel
theorem dl_772 : decode lw_Y.2.1 772 = .ok (.iload_n 3, 1) := by decide +kernel
theorem dl_773 : decode lw_Y.2.1 773 = .ok (.iconst 1, 1) := by decide +kernel
theorem dl_774 : decode lw_Y.2.1 774 = .ok (.iadd, 1) := by decide +kernel
theorem dl_775 : decode lw_Y.2.1 775 = .ok (.iaload, 1) := by decide +kernel
theorem dl_776 : decode lw_Y.2.1 776 = .ok (.aload_n 0, 1) := by decide +kernel
theorem dl_777 : decode lw_Y.2.1 777 = .ok (.iload_n 3, 1) := by decide +kernel
theorem dl_778 : decode lw_Y.2.1 778 = .ok (.iconst 2, 1) := by decide +kernel
theorem dl_779 : decode lw_Y.2.1 779 = .ok (.iadd, 1) := by decide +kernel
theorem dl_780 : decode lw_Y.2.1 780 = .ok (.iaload, 1) := by decide +kernel
theorem dl_781 : decode lw_Y.2.1 781 = .ok (.invokevirtual 89, 3) := by decide +kernel
theorem dl_784 : decode lw_Y.2.1 784 = .ok (.if_icmp .eq 639, 3) := by decide +kernel
theorem dl_787 : decode lw_Y.2.1 787 = .ok (.iconst 0, 1) := by decide +kernel
theorem dl_788 : decode lw_Y.2.1 788 = .ok (.ireturn, 1) := by decide +kernel
theorem dl_789 : decode lw_Y.2.1 789 = .ok (.aload_n 1, 1) := by decide +kernel
theorem dl_790 : decode lw_Y.2.1 790 = .ok (.aload_n 0, 1) := by decide +kernel
theorem dl_791 : decode lw_Y.2.1 791 = .ok (.iload_n 3, 1) := by decide +kernel
theorem dl_792 : decode lw_Y.2.1 792 = .ok (.iconst 1, 1) := by decide +kernel
theorem dl_793 : decode lw_Y.2.1 793 = .ok (.iadd, 1) := by decide +kernel
theorem dl_794 : decode lw_Y.2.1 794 = .ok (.iaload, 1) := by decide +kernel
theorem dl_795 : decode lw_Y.2.1 795 = .ok (.aload_n 0, 1) := by decide +kernel
theorem dl_796 : decode lw_Y.2.1 796 = .ok (.iload_n 3, 1) := by decide +kernel
theorem dl_797 : decode lw_Y.2.1 797 = .ok (.iconst 2, 1) := by decide +kernel
theorem dl_798 : decode lw_Y.2.1 798 = .ok (.iadd, 1) := by decide +kernel
theorem dl_799 : decode lw_Y.2.1 799 = .ok (.iaload, 1) := by decide +kernel
theorem dl_800 : decode lw_Y.2.1 800 = .ok (.aload_n 0, 1) := by decide +kernel
theorem dl_801 : decode lw_Y.2.1 801 = .ok (.iload_n 3, 1) := by decide +kernel
theorem dl_802 : decode lw_Y.2.1 802 = .ok (.iconst 3, 1) := by decide +kernel
theorem dl_803 : decode lw_Y.2.1 803 = .ok (.iadd, 1) := by decide +kernel
theorem dl_804 : decode lw_Y.2.1 804 = .ok (.iaload, 1) := by decide +kernel
theorem dl_805 : decode lw_Y.2.1 805 = .ok (.aload_n 0, 1) := by decide +kernel
theorem dl_806 : decode lw_Y.2.1 806 = .ok (.iload_n 3, 1) := by decide +kernel
theorem dl_807 : decode lw_Y.2.1 807 = .ok (.iconst 4, 1) := by decide +kernel
theorem dl_808 : decode lw_Y.2.1 808 = .ok (.iadd, 1) := by decide +kernel
theorem dl_809 : decode lw_Y.2.1 809 = .ok (.iaload, 1) := by decide +kernel
theorem dl_810 : decode lw_Y.2.1 810 = .ok (.invokevirtual 90, 3) := by decide +kernel
theorem dl_813 : decode lw_Y.2.1 813 = .ok (.aload_n 2, 1) := by decide +kernel
theorem dl_814 : decode lw_Y.2.1 814 = .ok (.aload_n 0, 1) := by decide +kernel
theorem dl_815 : decode lw_Y.2.1 815 = .ok (.iload_n 3, 1) := by decide +kernel
theorem dl_816 : decode lw_Y.2.1 816 = .ok (.iconst 1, 1) := by decide +kernel
theorem dl_817 : decode lw_Y.2.1 817 = .ok (.iadd, 1) := by decide +kernel
theorem dl_818 : decode lw_Y.2.1 818 = .ok (.iaload, 1) := by decide +kernel
theorem dl_819 : decode lw_Y.2.1 819 = .ok (.aload_n 0, 1) := by decide +kernel
theorem dl_820 : decode lw_Y.2.1 820 = .ok (.iload_n 3, 1) := by decide +kernel
theorem dl_821 : decode lw_Y.2.1 821 = .ok (.iconst 2, 1) := by decide +kernel
theorem dl_822 : decode lw_Y.2.1 822 = .ok (.iadd, 1) := by decide +kernel
theorem dl_823 : decode lw_Y.2.1 823 = .ok (.iaload, 1) := by decide +kernel
theorem dl_824 : decode lw_Y.2.1 824 = .ok (.aload_n 0, 1) := by decide +kernel
theorem dl_825 : decode lw_Y.2.1 825 = .ok (.iload_n 3, 1) := by decide +kernel
theorem dl_826 : decode lw_Y.2.1 826 = .ok (.iconst 3, 1) := by decide +kernel
theorem dl_827 : decode lw_Y.2.1 827 = .ok (.iadd, 1) := by decide +kernel
theorem dl_828 : decode lw_Y.2.1 828 = .ok (.iaload, 1) := by decide +kernel
theorem dl_829 : decode lw_Y.2.1 829 = .ok (.aload_n 0, 1) := by decide +kernel
theorem dl_830 : decode lw_Y.2.1 830 = .ok (.iload_n 3, 1) := by decide +kernel
theorem dl_831 : decode lw_Y.2.1 831 = .ok (.iconst 4, 1) := by decide +kernel
theorem dl_832 : decode lw_Y.2.1 832 = .ok (.iadd, 1) := by decide +kernel
theorem dl_833 : decode lw_Y.2.1 833 = .ok (.iaload, 1) := by decide +kernel
theorem dl_834 : decode lw_Y.2.1 834 = .ok (.invokevirtual 93, 3) := by decide +kernel
theorem dl_837 : decode lw_Y.2.1 837 = .ok (.if_icmp .eq 586, 3) := by decide +kernel
theorem dl_840 : decode lw_Y.2.1 840 = .ok (.iconst 0, 1) := by decide +kernel
theorem dl_841 : decode lw_Y.2.1 841 = .ok (.ireturn, 1) := by decide +kernel
theorem dl_842 : decode lw_Y.2.1 842 = .ok (.aload_n 1, 1) := by decide +kernel
theorem dl_843 : decode lw_Y.2.1 843 = .ok (.aload_n 0, 1) := by decide +kernel
theorem dl_844 : decode lw_Y.2.1 844 = .ok (.iload_n 3, 1) := by decide +kernel
theorem dl_845 : decode lw_Y.2.1 845 = .ok (.iconst 1, 1) := by decide +kernel
theorem dl_846 : decode lw_Y.2.1 846 = .ok (.iadd, 1) := by decide +kernel
theorem dl_847 : decode lw_Y.2.1 847 = .ok (.iaload, 1) := by decide +kernel
theorem dl_848 : decode lw_Y.2.1 848 = .ok (.aload_n 0, 1) := by decide +kernel
theorem dl_849 : decode lw_Y.2.1 849 = .ok (.iload_n 3, 1) := by decide +kernel
theorem dl_850 : decode lw_Y.2.1 850 = .ok (.iconst 2, 1) := by decide +kernel
theorem dl_851 : decode lw_Y.2.1 851 = .ok (.iadd, 1) := by decide +kernel
theorem dl_852 : decode lw_Y.2.1 852 = .ok (.iaload, 1) := by decide +kernel
theorem dl_853 : decode lw_Y.2.1 853 = .ok (.invokevirtual 94, 3) := by decide +kernel
theorem dl_856 : decode lw_Y.2.1 856 = .ok (.aload_n 2, 1) := by decide +kernel
theorem dl_857 : decode lw_Y.2.1 857 = .ok (.aload_n 0, 1) := by decide +kernel
theorem dl_858 : decode lw_Y.2.1 858 = .ok (.iload_n 3, 1) := by decide +kernel
theorem dl_859 : decode lw_Y.2.1 859 = .ok (.iconst 1, 1) := by decide +kernel
theorem dl_860 : decode lw_Y.2.1 860 = .ok (.iadd, 1) := by decide +kernel
theorem dl_861 : decode lw_Y.2.1 861 = .ok (.iaload, 1) := by decide +kernel
theorem dl_862 : decode lw_Y.2.1 862 = .ok (.aload_n 0, 1) := by decide +kernel
theorem dl_863 : decode lw_Y.2.1 863 = .ok (.iload_n 3, 1) := by decide +kernel
theorem dl_864 : decode lw_Y.2.1 864 = .ok (.iconst 2, 1) := by decide +kernel
theorem dl_865 : decode lw_Y.2.1 865 = .ok (.iadd, 1) := by decide +kernel
theorem dl_866 : decode lw_Y.2.1 866 = .ok (.iaload, 1) := by decide +kernel
theorem dl_867 : decode lw_Y.2.1 867 = .ok (.invokevirtual 97, 3) := by decide +kernel
theorem dl_870 : decode lw_Y.2.1 870 = .ok (.if_icmp .eq 553, 3) := by decide +kernel
theorem dl_873 : decode lw_Y.2.1 873 = .ok (.iconst 0, 1) := by decide +kernel
theorem dl_874 : decode lw_Y.2.1 874 = .ok (.ireturn, 1) := by decide +kernel
theorem dl_875 : decode lw_Y.2.1 875 = .ok (.aload_n 1, 1) := by decide +kernel
theorem dl_876 : decode lw_Y.2.1 876 = .ok (.aload_n 0, 1) := by decide +kernel
theorem dl_877 : decode lw_Y.2.1 877 = .ok (.iload_n 3, 1) := by decide +kernel
theorem dl_878 : decode lw_Y.2.1 878 = .ok (.iconst 1, 1) := by decide +kernel
theorem dl_879 : decode lw_Y.2.1 879 = .ok (.iadd, 1) := by decide +kernel
theorem dl_880 : decode lw_Y.2.1 880 = .ok (.iaload, 1) := by decide +kernel
theorem dl_881 : decode lw_Y.2.1 881 = .ok (.aload_n 0, 1) := by decide +kernel
theorem dl_882 : decode lw_Y.2.1 882 = .ok (.iload_n 3, 1) := by decide +kernel
theorem dl_883 : decode lw_Y.2.1 883 = .ok (.iconst 2, 1) := by decide +kernel
theorem dl_884 : decode lw_Y.2.1 884 = .ok (.iadd, 1) := by decide +kernel
theorem dl_885 : decode lw_Y.2.1 885 = .ok (.iaload, 1) := by decide +kernel
theorem dl_886 : decode lw_Y.2.1 886 = .ok (.invokevirtual 98, 3) := by decide +kernel
theorem dl_889 : decode lw_Y.2.1 889 = .ok (.aload_n 2, 1) := by decide +kernel
theorem dl_890 : decode lw_Y.2.1 890 = .ok (.aload_n 0, 1) := by decide +kernel
theorem dl_891 : decode lw_Y.2.1 891 = .ok (.iload_n 3, 1) := by decide +kernel
theorem dl_892 : decode lw_Y.2.1 892 = .ok (.iconst 1, 1) := by decide +kernel
theorem dl_893 : decode lw_Y.2.1 893 = .ok (.iadd, 1) := by decide +kernel
theorem dl_894 : decode lw_Y.2.1 894 = .ok (.iaload, 1) := by decide +kernel
theorem dl_895 : decode lw_Y.2.1 895 = .ok (.aload_n 0, 1) := by decide +kernel
theorem dl_896 : decode lw_Y.2.1 896 = .ok (.iload_n 3, 1) := by decide +kernel
theorem dl_897 : decode lw_Y.2.1 897 = .ok (.iconst 2, 1) := by decide +kernel
theorem dl_898 : decode lw_Y.2.1 898 = .ok (.iadd, 1) := by decide +kernel
theorem dl_899 : decode lw_Y.2.1 899 = .ok (.iaload, 1) := by decide +kernel
theorem dl_900 : decode lw_Y.2.1 900 = .ok (.invokevirtual 101, 3) := by decide +kernel
theorem dl_903 : decode lw_Y.2.1 903 = .ok (.if_icmp .eq 520, 3) := by decide +kernel
theorem dl_906 : decode lw_Y.2.1 906 = .ok (.iconst 0, 1) := by decide +kernel
theorem dl_907 : decode lw_Y.2.1 907 = .ok (.ireturn, 1) := by decide +kernel
theorem dl_908 : decode lw_Y.2.1 908 = .ok (.aload_n 1, 1) := by decide +kernel
theorem dl_909 : decode lw_Y.2.1 909 = .ok (.aload_n 0, 1) := by decide +kernel
theorem dl_910 : decode lw_Y.2.1 910 = .ok (.iload_n 3, 1) := by decide +kernel
theorem dl_911 : decode lw_Y.2.1 911 = .ok (.iconst 1, 1) := by decide +kernel
theorem dl_912 : decode lw_Y.2.1 912 = .ok (.iadd, 1) := by decide +kernel
theorem dl_913 : decode lw_Y.2.1 913 = .ok (.iaload, 1) := by decide +kernel
theorem dl_914 : decode lw_Y.2.1 914 = .ok (.aload_n 0, 1) := by decide +kernel
theorem dl_915 : decode lw_Y.2.1 915 = .ok (.iload_n 3, 1) := by decide +kernel
