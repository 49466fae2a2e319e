theorem d_L_law_666 : decode code 666 = .ok (.iload_n 3, 1) := by decide +kernel
theorem d_L_law_667 : decode code 667 = .ok (.iconst 1, 1) := by decide +kernel
theorem d_L_law_668 : decode code 668 = .ok (.iadd, 1) := by decide +kernel
theorem d_L_law_669 : decode code 669 = .ok (.iaload, 1) := by decide +kernel
theorem d_L_law_670 : decode code 670 = .ok (.invokevirtual 70, 3) := by decide +kernel
theorem d_L_law_673 : decode code 673 = .ok (.aload_n 2, 1) := by decide +kernel
theorem d_L_law_674 : decode code 674 = .ok (.aload_n 0, 1) := by decide +kernel
theorem d_L_law_675 : decode code 675 = .ok (.iload_n 3, 1) := by decide +kernel
theorem d_L_law_676 : decode code 676 = .ok (.iconst 1, 1) := by decide +kernel
theorem d_L_law_677 : decode code 677 = .ok (.iadd, 1) := by decide +kernel
theorem d_L_law_678 : decode code 678 = .ok (.iaload, 1) := by decide +kernel
theorem d_L_law_679 : decode code 679 = .ok (.invokevirtual 73, 3) := by decide +kernel
theorem d_L_law_682 : decode code 682 = .ok (.if_icmp .eq 269, 3) := by decide +kernel
theorem d_L_law_685 : decode code 685 = .ok (.iconst 0, 1) := by decide +kernel
theorem d_L_law_686 : decode code 686 = .ok (.ireturn, 1) := by decide +kernel
theorem d_L_law_687 : decode code 687 = .ok (.aload_n 1, 1) := by decide +kernel
theorem d_L_law_688 : decode code 688 = .ok (.aload_n 0, 1) := by decide +kernel
theorem d_L_law_689 : decode code 689 = .ok (.iload_n 3, 1) := by decide +kernel
theorem d_L_law_690 : decode code 690 = .ok (.iconst 1, 1) := by decide +kernel
theorem d_L_law_691 : decode code 691 = .ok (.iadd, 1) := by decide +kernel
theorem d_L_law_692 : decode code 692 = .ok (.iaload, 1) := by decide +kernel
theorem d_L_law_693 : decode code 693 = .ok (.aload_n 0, 1) := by decide +kernel
theorem d_L_law_694 : decode code 694 = .ok (.iload_n 3, 1) := by decide +kernel
theorem d_L_law_695 : decode code 695 = .ok (.iconst 2, 1) := by decide +kernel
theorem d_L_law_696 : decode code 696 = .ok (.iadd, 1) := by decide +kernel
theorem d_L_law_697 : decode code 697 = .ok (.iaload, 1) := by decide +kernel
theorem d_L_law_698 : decode code 698 = .ok (.aload_n 0, 1) := by decide +kernel
theorem d_L_law_699 : decode code 699 = .ok (.iload_n 3, 1) := by decide +kernel
theorem d_L_law_700 : decode code 700 = .ok (.iconst 3, 1) := by decide +kernel
theorem d_L_law_701 : decode code 701 = .ok (.iadd, 1) := by decide +kernel
theorem d_L_law_702 : decode code 702 = .ok (.iaload, 1) := by decide +kernel
theorem d_L_law_703 : decode code 703 = .ok (.aload_n 0, 1) := by decide +kernel
theorem d_L_law_704 : decode code 704 = .ok (.iload_n 3, 1) := by decide +kernel
theorem d_L_law_705 : decode code 705 = .ok (.iconst 4, 1) := by decide +kernel
theorem d_L_law_706 : decode code 706 = .ok (.iadd, 1) := by decide +kernel
theorem d_L_law_707 : decode code 707 = .ok (.iaload, 1) := by decide +kernel
theorem d_L_law_708 : decode code 708 = .ok (.invokevirtual 74, 3) := by decide +kernel
theorem d_L_law_711 : decode code 711 = .ok (.aload_n 2, 1) := by decide +kernel
theorem d_L_law_712 : decode code 712 = .ok (.aload_n 0, 1) := by decide +kernel
theorem d_L_law_713 : decode code 713 = .ok (.iload_n 3, 1) := by decide +kernel
theorem d_L_law_714 : decode code 714 = .ok (.iconst 1, 1) := by decide +kernel
theorem d_L_law_715 : decode code 715 = .ok (.iadd, 1) := by decide +kernel
theorem d_L_law_716 : decode code 716 = .ok (.iaload, 1) := by decide +kernel
theorem d_L_law_717 : decode code 717 = .ok (.aload_n 0, 1) := by decide +kernel
theorem d_L_law_718 : decode code 718 = .ok (.iload_n 3, 1) := by decide +kernel
theorem d_L_law_719 : decode code 719 = .ok (.iconst 2, 1) := by decide +kernel
theorem d_L_law_720 : decode code 720 = .ok (.iadd, 1) := by decide +kernel
theorem d_L_law_721 : decode code 721 = .ok (.iaload, 1) := by decide +kernel
theorem d_L_law_722 : decode code 722 = .ok (.aload_n 0, 1) := by decide +kernel
theorem d_L_law_723 : decode code 723 = .ok (.iload_n 3, 1) := by decide +kernel
theorem d_L_law_724 : decode code 724 = .ok (.iconst 3, 1) := by decide +kernel
theorem d_L_law_725 : decode code 725 = .ok (.iadd, 1) := by decide +kernel
theorem d_L_law_726 : decode code 726 = .ok (.iaload, 1) := by decide +kernel
theorem d_L_law_727 : decode code 727 = .ok (.aload_n 0, 1) := by decide +kernel
theorem d_L_law_728 : decode code 728 = .ok (.iload_n 3, 1) := by decide +kernel
theorem d_L_law_729 : decode code 729 = .ok (.iconst 4, 1) := by decide +kernel
theorem d_L_law_730 : decode code 730 = .ok (.iadd, 1) := by decide +kernel
theorem d_L_law_731 : decode code 731 = .ok (.iaload, 1) := by decide +kernel
theorem d_L_law_732 : decode code 732 = .ok (.invokevirtual 77, 3) := by decide +kernel
theorem d_L_law_735 : decode code 735 = .ok (.lcmp, 1) := by decide +kernel
theorem d_L_law_736 : decode code 736 = .ok (.ifCond .eq 215, 3) := by decide +kernel
theorem d_L_law_739 : decode code 739 = .ok (.iconst 0, 1) := by decide +kernel
theorem d_L_law_740 : decode code 740 = .ok (.ireturn, 1) := by decide +kernel
theorem d_L_law_741 : decode code 741 = .ok (.aload_n 1, 1) := by decide +kernel
theorem d_L_law_742 : decode code 742 = .ok (.aload_n 0, 1) := by decide +kernel
theorem d_L_law_743 : decode code 743 = .ok (.iload_n 3, 1) := by decide +kernel
theorem d_L_law_744 : decode code 744 = .ok (.iconst 1, 1) := by decide +kernel
theorem d_L_law_745 : decode code 745 = .ok (.iadd, 1) := by decide +kernel
theorem d_L_law_746 : decode code 746 = .ok (.iaload, 1) := by decide +kernel
theorem d_L_law_747 : decode code 747 = .ok (.aload_n 0, 1) := by decide +kernel
theorem d_L_law_748 : decode code 748 = .ok (.iload_n 3, 1) := by decide +kernel
theorem d_L_law_749 : decode code 749 = .ok (.iconst 2, 1) := by decide +kernel
theorem d_L_law_750 : decode code 750 = .ok (.iadd, 1) := by decide +kernel
theorem d_L_law_751 : decode code 751 = .ok (.iaload, 1) := by decide +kernel
theorem d_L_law_752 : decode code 752 = .ok (.aload_n 0, 1) := by decide +kernel
theorem d_L_law_753 : decode code 753 = .ok (.iload_n 3, 1) := by decide +kernel
theorem d_L_law_754 : decode code 754 = .ok (.iconst 3, 1) := by decide +kernel
theorem d_L_law_755 : decode code 755 = .ok (.iadd, 1) := by decide +kernel
theorem d_L_law_756 : decode code 756 = .ok (.iaload, 1) := by decide +kernel
theorem d_L_law_757 : decode code 757 = .ok (.aload_n 0, 1) := by decide +kernel
theorem d_L_law_758 : decode code 758 = .ok (.iload_n 3, 1) := by decide +kernel
theorem d_L_law_759 : decode code 759 = .ok (.iconst 4, 1) := by decide +kernel
theorem d_L_law_760 : decode code 760 = .ok (.iadd, 1) := by decide +kernel
theorem d_L_law_761 : decode code 761 = .ok (.iaload, 1) := by decide +kernel
theorem d_L_law_762 : decode code 762 = .ok (.invokevirtual 78, 3) := by decide +kernel
theorem d_L_law_765 : decode code 765 = .ok (.aload_n 2, 1) := by decide +kernel
theorem d_L_law_766 : decode code 766 = .ok (.aload_n 0, 1) := by decide +kernel
theorem d_L_law_767 : decode code 767 = .ok (.iload_n 3, 1) := by decide +kernel
theorem d_L_law_768 : decode code 768 = .ok (.iconst 1, 1) := by decide +kernel
theorem d_L_law_769 : decode code 769 = .ok (.iadd, 1) := by decide +kernel
theorem d_L_law_770 : decode code 770 = .ok (.iaload, 1) := by decide +kernel
theorem d_L_law_771 : decode code 771 = .ok (.aload_n 0, 1) := by decide +kernel
theorem d_L_law_772 : decode code 772 = .ok (.iload_n 3, 1) := by decide +kernel
theorem d_L_law_773 : decode code 773 = .ok (.iconst 2, 1) := by decide +kernel
theorem d_L_law_774 : decode code 774 = .ok (.iadd, 1) := by decide +kernel
theorem d_L_law_775 : decode code 775 = .ok (.iaload, 1) := by decide +kernel
theorem d_L_law_776 : decode code 776 = .ok (.aload_n 0, 1) := by decide +kernel
theorem d_L_law_777 : decode code 777 = .ok (.iload_n 3, 1) := by decide +kernel
theorem d_L_law_778 : decode code 778 = .ok (.iconst 3, 1) := by decide +kernel
theorem d_L_law_779 : decode code 779 = .ok (.iadd, 1) := by decide +kernel
theorem d_L_law_780 : decode code 780 = .ok (.iaload, 1) := by decide +kernel
theorem d_L_law_781 : decode code 781 = .ok (.aload_n 0, 1) := by decide +kernel
theorem d_L_law_782 : decode code 782 = .ok (.iload_n 3, 1) := by decide +kernel
theorem d_L_law_783 : decode code 783 = .ok (.iconst 4, 1) := by decide +kernel
theorem d_L_law_784 : decode code 784 = .ok (.iadd, 1) := by decide +kernel
theorem d_L_law_785 : decode code 785 = .ok (.iaload, 1) := by decide +kernel
theorem d_L_law_786 : decode code 786 = .ok (.invokevirtual 81, 3) := by decide +kernel
theorem d_L_law_789 : decode code 789 = .ok (.lcmp, 1) := by decide +kernel
theorem d_L_law_790 : decode code 790 = .ok (.ifCond .eq 161, 3) := by decide +kernel
theorem d_L_law_793 : decode code 793 = .ok (.iconst 0, 1) := by decide +kernel
theorem d_L_law_794 : decode code 794 = .ok (.ireturn, 1) := by decide +kernel
theorem d_L_law_795 : decode code 795 = .ok (.aload_n 1, 1) := by decide +kernel
theorem d_L_law_796 : decode code 796 = .ok (.aload_n 0, 1) := by decide +kernel
theorem d_L_law_797 : decode code 797 = .ok (.iload_n 3, 1) := by decide +kernel
theorem d_L_law_798 : decode code 798 = .ok (.iconst 1, 1) := by decide +kernel
theorem d_L_law_799 : decode code 799 = .ok (.iadd, 1) := by decide +kernel
theorem d_L_law_800 : decode code 800 = .ok (.iaload, 1) := by decide +kernel
theorem d_L_law_801 : decode code 801 = .ok (.invokevirtual 82, 3) := by decide +kernel
theorem d_L_law_804 : decode code 804 = .ok (.aload_n 2, 1) := by decide +kernel
theorem d_L_law_805 : decode code 805 = .ok (.aload_n 0, 1) := by decide +kernel
theorem d_L_law_806 : decode code 806 = .ok (.iload_n 3, 1) := by decide +kernel
theorem d_L_law_807 : decode code 807 = .ok (.iconst 1, 1) := by decide +kernel
theorem d_L_law_808 : decode code 808 = .ok (.iadd, 1) := by decide +kernel
theorem d_L_law_809 : decode code 809 = .ok (.iaload, 1) := by decide +kernel
theorem d_L_law_810 : decode code 810 = .ok (.invokevirtual 85, 3) := by decide +kernel
theorem d_L_law_813 : decode code 813 = .ok (.if_icmp .eq 138, 3) := by decide +kernel
theorem d_L_law_816 : decode code 816 = .ok (.iconst 0, 1) := by decide +kernel
theorem d_L_law_817 : decode code 817 = .ok (.ireturn, 1) := by decide +kernel
theorem d_L_law_818 : decode code 818 = .ok (.aload_n 1, 1) := by decide +kernel
theorem d_L_law_819 : decode code 819 = .ok (.aload_n 0, 1) := by decide +kernel
theorem d_L_law_820 : decode code 820 = .ok (.iload_n 3, 1) := by decide +kernel
theorem d_L_law_821 : decode code 821 = .ok (.iconst 1, 1) := by decide +kernel
theorem d_L_law_822 : decode code 822 = .ok (.iadd, 1) := by decide +kernel
theorem d_L_law_823 : decode code 823 = .ok (.iaload, 1) := by decide +kernel
theorem d_L_law_824 : decode code 824 = .ok (.aload_n 0, 1) := by decide +kernel
theorem d_L_law_825 : decode code 825 = .ok (.iload_n 3, 1) := by decide +kernel
theorem d_L_law_826 : decode code 826 = .ok (.iconst 2, 1) := by decide +kernel
theorem d_L_law_827 : decode code 827 = .ok (.iadd, 1) := by decide +kernel
theorem d_L_law_828 : decode code 828 = .ok (.iaload, 1) := by decide +kernel
theorem d_L_law_829 : decode code 829 = .ok (.invokevirtual 86, 3) := by decide +kernel
theorem d_L_law_832 : decode code 832 = .ok (.aload_n 2, 1) := by decide +kernel
theorem d_L_law_833 : decode code 833 = .ok (.aload_n 0, 1) := by decide +kernel
theorem d_L_law_834 : decode code 834 = .ok (.iload_n 3, 1) := by decide +kernel
theorem d_L_law_835 : decode code 835 = .ok (.iconst 1, 1) := by decide +kernel
theorem d_L_law_836 : decode code 836 = .ok (.iadd, 1) := by decide +kernel
theorem d_L_law_837 : decode code 837 = .ok (.iaload, 1) := by decide +kernel
theorem d_L_law_838 : decode code 838 = .ok (.aload_n 0, 1) := by decide +kernel
theorem d_L_law_839 : decode code 839 = .ok (.iload_n 3, 1) := by decide +kernel
theorem d_L_law_840 : decode code 840 = .ok (.iconst 2, 1) := by decide +kernel
theorem d_L_law_841 : decode code 841 = .ok (.iadd, 1) := by decide +kernel
theorem d_L_law_842 : decode code 842 = .ok (.iaload, 1) := by decide +kernel
theorem d_L_law_843 : decode code 843 = .ok (.invokevirtual 89, 3) := by decide +kernel
theorem d_L_law_846 : decode code 846 = .ok (.lcmp, 1) := by decide +kernel
theorem d_L_law_847 : decode code 847 = .ok (.ifCond .eq 104, 3) := by decide +kernel
theorem d_L_law_850 : decode code 850 = .ok (.iconst 0, 1) := by decide +kernel
theorem d_L_law_851 : decode code 851 = .ok (.ireturn, 1) := by decide +kernel
theorem d_L_law_852 : decode code 852 = .ok (.aload_n 1, 1) := by decide +kernel
theorem d_L_law_853 : decode code 853 = .ok (.aload_n 0, 1) := by decide +kernel
theorem d_L_law_854 : decode code 854 = .ok (.iload_n 3, 1) := by decide +kernel
theorem d_L_law_855 : decode code 855 = .ok (.iconst 1, 1) := by decide +kernel
theorem d_L_law_856 : decode code 856 = .ok (.iadd, 1) := by decide +kernel
theorem d_L_law_857 : decode code 857 = .ok (.iaload, 1) := by decide +kernel
theorem d_L_law_858 : decode code 858 = .ok (.aload_n 0, 1) := by decide +kernel
theorem d_L_law_859 : decode code 859 = .ok (.iload_n 3, 1) := by decide +kernel
theorem d_L_law_860 : decode code 860 = .ok (.iconst 2, 1) := by decide +kernel
theorem d_L_law_861 : decode code 861 = .ok (.iadd, 1) := by decide +kernel
theorem d_L_law_862 : decode code 862 = .ok (.iaload, 1) := by decide +kernel
theorem d_L_law_863 : decode code 863 = .ok (.invokevirtual 90, 3) := by decide +kernel
theorem d_L_law_866 : decode code 866 = .ok (.aload_n 2, 1) := by decide +kernel
theorem d_L_law_867 : decode code 867 = .ok (.aload_n 0, 1) := by decide +kernel
theorem d_L_law_868 : decode code 868 = .ok (.iload_n 3, 1) := by decide +kernel
theorem d_L_law_869 : decode code 869 = .ok (.iconst 1, 1) := by decide +kernel
theorem d_L_law_870 : decode code 870 = .ok (.iadd, 1) := by decide +kernel
theorem d_L_law_871 : decode code 871 = .ok (.iaload, 1) := by decide +kernel
theorem d_L_law_872 : decode code 872 = .ok (.aload_n 0, 1) := by decide +kernel
theorem d_L_law_873 : decode code 873 = .ok (.iload_n 3, 1) := by decide +kernel
theorem d_L_law_874 : decode code 874 = .ok (.iconst 2, 1) := by decide +kernel
theorem d_L_law_875 : decode code 875 = .ok (.iadd, 1) := by decide +kernel
theorem d_L_law_876 : decode code 876 = .ok (.iaload, 1) := by decide +kernel
theorem d_L_law_877 : decode code 877 = .ok (.invokevirtual 93, 3) := by decide +kernel
theorem d_L_law_880 : decode code 880 = .ok (.if_icmp .eq 71, 3) := by decide +kernel
theorem d_L_law_883 : decode code 883 = .ok (.iconst 0, 1) := by decide +kernel
theorem d_L_law_884 : decode code 884 = .ok (.ireturn, 1) := by decide +kernel
theorem d_L_law_885 : decode code 885 = .ok (.aload_n 1, 1) := by decide +kernel
theorem d_L_law_886 : decode code 886 = .ok (.aload_n 0, 1) := by decide +kernel
theorem d_L_law_887 : decode code 887 = .ok (.iload_n 3, 1) := by decide +kernel
theorem d_L_law_888 : decode code 888 = .ok (.iconst 1, 1) := by decide +kernel
theorem d_L_law_889 : decode code 889 = .ok (.iadd, 1) := by decide +kernel
theorem d_L_law_890 : decode code 890 = .ok (.iaload, 1) := by decide +kernel
theorem d_L_law_891 : decode code 891 = .ok (.invokevirtual 94, 3) := by decide +kernel
theorem d_L_law_894 : decode code 894 = .ok (.aload_n 2, 1) := by decide +kernel
theorem d_L_law_895 : decode code 895 = .ok (.aload_n 0, 1) := by decide +kernel
theorem d_L_law_896 : decode code 896 = .ok (.iload_n 3, 1) := by decide +kernel
theorem d_L_law_897 : decode code 897 = .ok (.iconst 1, 1) := by decide +kernel
theorem d_L_law_898 : decode code 898 = .ok (.iadd, 1) := by decide +kernel
theorem d_L_law_899 : decode code 899 = .ok (.iaload, 1) := by decide +kernel
theorem d_L_law_900 : decode code 900 = .ok (.invokevirtual 97, 3) := by decide +kernel
theorem d_L_law_903 : decode code 903 = .ok (.if_icmp .eq 48, 3) := by decide +kernel
theorem d_L_law_906 : decode code 906 = .ok (.iconst 0, 1) := by decide +kernel
theorem d_L_law_907 : decode code 907 = .ok (.ireturn, 1) := by decide +kernel
theorem d_L_law_908 : decode code 908 = .ok (.aload_n 1, 1) := by decide +kernel
theorem d_L_law_909 : decode code 909 = .ok (.aload_n 0, 1) := by decide +kernel
theorem d_L_law_910 : decode code 910 = .ok (.iload_n 3, 1) := by decide +kernel
theorem d_L_law_911 : decode code 911 = .ok (.iconst 1, 1) := by decide +kernel
theorem d_L_law_912 : decode code 912 = .ok (.iadd, 1) := by decide +kernel
theorem d_L_law_913 : decode code 913 = .ok (.iaload, 1) := by decide +kernel
theorem d_L_law_914 : decode code 914 = .ok (.aload_n 0, 1) := by decide +kernel
theorem d_L_law_915 : decode code 915 = .ok (.iload_n 3, 1) := by decide +kernel
theorem d_L_law_916 : decode code 916 = .ok (.iconst 2, 1) := by decide +kernel
theorem d_L_law_917 : decode code 917 = .ok (.iadd, 1) := by decide +kernel
theorem d_L_law_918 : decode code 918 = .ok (.iaload, 1) := by decide +kernel
theorem d_L_law_919 : decode code 919 = .ok (.aload_n 0, 1) := by decide +kernel
theorem d_L_law_920 : decode code 920 = .ok (.iload_n 3, 1) := by decide +kernel
theorem d_L_law_921 : decode code 921 = .ok (.iconst 3, 1) := by decide +kernel
theorem d_L_law_922 : decode code 922 = .ok (.iadd, 1) := by decide +kernel
theorem d_L_law_923 : decode code 923 = .ok (.iaload, 1) := by decide +kernel
theorem d_L_law_924 : decode code 924 = .ok (.invokevirtual 98, 3) := by decide +kernel
theorem d_L_law_927 : decode code 927 = .ok (.aload_n 2, 1) := by decide +kernel
theorem d_L_law_928 : decode code 928 = .ok (.aload_n 0, 1) := by decide +kernel
theorem d_L_law_929 : decode code 929 = .ok (.iload_n 3, 1) := by decide +kernel
theorem d_L_law_930 : decode code 930 = .ok (.iconst 1, 1) := by decide +kernel
theorem d_L_law_931 : decode code 931 = .ok (.iadd, 1) := by decide +kernel
theorem d_L_law_932 : decode code 932 = .ok (.iaload, 1) := by decide +kernel
theorem d_L_law_933 : decode code 933 = .ok (.aload_n 0, 1) := by decide +kernel
theorem d_L_law_934 : decode code 934 = .ok (.iload_n 3, 1) := by decide +kernel
theorem d_L_law_935 : decode code 935 = .ok (.iconst 2, 1) := by decide +kernel
theorem d_L_law_936 : decode code 936 = .ok (.iadd, 1) := by decide +kernel
theorem d_L_law_937 : decode code 937 = .ok (.iaload, 1) := by decide +kernel
theorem d_L_law_938 : decode code 938 = .ok (.aload_n 0, 1) := by decide +kernel
theorem d_L_law_939 : decode code 939 = .ok (.iload_n 3, 1) := by decide +kernel
theorem d_L_law_940 : decode code 940 = .ok (.iconst 3, 1) := by decide +kernel
theorem d_L_law_941 : decode code 941 = .ok (.iadd, 1) := by decide +kernel
theorem d_L_law_942 : decode code 942 = .ok (.iaload, 1) := by decide +kernel
theorem d_L_law_943 : decode code 943 = .ok (.invokevirtual 101, 3) := by decide +kernel
theorem d_L_law_946 : decode code 946 = .ok (.if_icmp .eq 5, 3) := by decide +kernel
theorem d_L_law_949 : decode code 949 = .ok (.iconst 0, 1) := by decide +kernel
theorem d_L_law_950 : decode code 950 = .ok (.ireturn, 1) := by decide +kernel
theorem d_L_law_951 : decode code 951 = .ok (.iinc 3 8, 3) := by decide +kernel
theorem d_L_law_954 : decode code 954 = .ok (.goto (-936), 3) := by decide +kernel
theorem d_L_law_957 : decode code 957 = .ok (.iconst 1, 1) := by decide +kernel
theorem d_L_law_958 : decode code 958 = .ok (.ireturn, 1) := by decide +kernel
