theorem dL_law_717 : decode code 717 = .ok (.iload_n 3, 1) := by decide +kernel
theorem dL_law_718 : decode code 718 = .ok (.iconst 5, 1) := by decide +kernel
theorem dL_law_719 : decode code 719 = .ok (.iadd, 1) := by decide +kernel
theorem dL_law_720 : decode code 720 = .ok (.iaload, 1) := by decide +kernel
theorem dL_law_721 : decode code 721 = .ok (.i2l, 1) := by decide +kernel
theorem dL_law_722 : decode code 722 = .ok (.ldc2_w 26, 3) := by decide +kernel
theorem dL_law_725 : decode code 725 = .ok (.land, 1) := by decide +kernel
theorem dL_law_726 : decode code 726 = .ok (.lor, 1) := by decide +kernel
theorem dL_law_727 : decode code 727 = .ok (.invokevirtual 64, 3) := by decide +kernel
theorem dL_law_730 : decode code 730 = .ok (.aload_n 2, 1) := by decide +kernel
theorem dL_law_731 : decode code 731 = .ok (.aload_n 0, 1) := by decide +kernel
theorem dL_law_732 : decode code 732 = .ok (.iload_n 3, 1) := by decide +kernel
theorem dL_law_733 : decode code 733 = .ok (.iconst 1, 1) := by decide +kernel
theorem dL_law_734 : decode code 734 = .ok (.iadd, 1) := by decide +kernel
theorem dL_law_735 : decode code 735 = .ok (.iaload, 1) := by decide +kernel
theorem dL_law_736 : decode code 736 = .ok (.aload_n 0, 1) := by decide +kernel
theorem dL_law_737 : decode code 737 = .ok (.iload_n 3, 1) := by decide +kernel
theorem dL_law_738 : decode code 738 = .ok (.iconst 2, 1) := by decide +kernel
theorem dL_law_739 : decode code 739 = .ok (.iadd, 1) := by decide +kernel
theorem dL_law_740 : decode code 740 = .ok (.iaload, 1) := by decide +kernel
theorem dL_law_741 : decode code 741 = .ok (.aload_n 0, 1) := by decide +kernel
theorem dL_law_742 : decode code 742 = .ok (.iload_n 3, 1) := by decide +kernel
theorem dL_law_743 : decode code 743 = .ok (.iconst 3, 1) := by decide +kernel
theorem dL_law_744 : decode code 744 = .ok (.iadd, 1) := by decide +kernel
theorem dL_law_745 : decode code 745 = .ok (.iaload, 1) := by decide +kernel
theorem dL_law_746 : decode code 746 = .ok (.aload_n 0, 1) := by decide +kernel
theorem dL_law_747 : decode code 747 = .ok (.iload_n 3, 1) := by decide +kernel
theorem dL_law_748 : decode code 748 = .ok (.iconst 4, 1) := by decide +kernel
theorem dL_law_749 : decode code 749 = .ok (.iadd, 1) := by decide +kernel
theorem dL_law_750 : decode code 750 = .ok (.iaload, 1) := by decide +kernel
theorem dL_law_751 : decode code 751 = .ok (.i2l, 1) := by decide +kernel
theorem dL_law_752 : decode code 752 = .ok (.bipush 32, 2) := by decide +kernel
theorem dL_law_754 : decode code 754 = .ok (.lshl, 1) := by decide +kernel
theorem dL_law_755 : decode code 755 = .ok (.aload_n 0, 1) := by decide +kernel
theorem dL_law_756 : decode code 756 = .ok (.iload_n 3, 1) := by decide +kernel
theorem dL_law_757 : decode code 757 = .ok (.iconst 5, 1) := by decide +kernel
theorem dL_law_758 : decode code 758 = .ok (.iadd, 1) := by decide +kernel
theorem dL_law_759 : decode code 759 = .ok (.iaload, 1) := by decide +kernel
theorem dL_law_760 : decode code 760 = .ok (.i2l, 1) := by decide +kernel
theorem dL_law_761 : decode code 761 = .ok (.ldc2_w 26, 3) := by decide +kernel
theorem dL_law_764 : decode code 764 = .ok (.land, 1) := by decide +kernel
theorem dL_law_765 : decode code 765 = .ok (.lor, 1) := by decide +kernel
theorem dL_law_766 : decode code 766 = .ok (.invokevirtual 68, 3) := by decide +kernel
theorem dL_law_769 : decode code 769 = .ok (.if_icmp .eq 174, 3) := by decide +kernel
theorem dL_law_772 : decode code 772 = .ok (.iconst 0, 1) := by decide +kernel
theorem dL_law_773 : decode code 773 = .ok (.ireturn, 1) := by decide +kernel
theorem dL_law_774 : decode code 774 = .ok (.aload_n 1, 1) := by decide +kernel
theorem dL_law_775 : decode code 775 = .ok (.invokevirtual 69, 3) := by decide +kernel
theorem dL_law_778 : decode code 778 = .ok (.aload_n 2, 1) := by decide +kernel
theorem dL_law_779 : decode code 779 = .ok (.invokevirtual 73, 3) := by decide +kernel
theorem dL_law_782 : decode code 782 = .ok (.if_icmp .eq 161, 3) := by decide +kernel
theorem dL_law_785 : decode code 785 = .ok (.iconst 0, 1) := by decide +kernel
theorem dL_law_786 : decode code 786 = .ok (.ireturn, 1) := by decide +kernel
theorem dL_law_787 : decode code 787 = .ok (.aload_n 1, 1) := by decide +kernel
theorem dL_law_788 : decode code 788 = .ok (.invokevirtual 74, 3) := by decide +kernel
theorem dL_law_791 : decode code 791 = .ok (.aload_n 2, 1) := by decide +kernel
theorem dL_law_792 : decode code 792 = .ok (.invokevirtual 77, 3) := by decide +kernel
theorem dL_law_795 : decode code 795 = .ok (.if_icmp .eq 148, 3) := by decide +kernel
theorem dL_law_798 : decode code 798 = .ok (.iconst 0, 1) := by decide +kernel
theorem dL_law_799 : decode code 799 = .ok (.ireturn, 1) := by decide +kernel
theorem dL_law_800 : decode code 800 = .ok (.aload_n 1, 1) := by decide +kernel
theorem dL_law_801 : decode code 801 = .ok (.invokevirtual 78, 3) := by decide +kernel
theorem dL_law_804 : decode code 804 = .ok (.aload_n 2, 1) := by decide +kernel
theorem dL_law_805 : decode code 805 = .ok (.invokevirtual 81, 3) := by decide +kernel
theorem dL_law_808 : decode code 808 = .ok (.if_icmp .eq 135, 3) := by decide +kernel
theorem dL_law_811 : decode code 811 = .ok (.iconst 0, 1) := by decide +kernel
theorem dL_law_812 : decode code 812 = .ok (.ireturn, 1) := by decide +kernel
theorem dL_law_813 : decode code 813 = .ok (.aload_n 1, 1) := by decide +kernel
theorem dL_law_814 : decode code 814 = .ok (.aload_n 0, 1) := by decide +kernel
theorem dL_law_815 : decode code 815 = .ok (.iload_n 3, 1) := by decide +kernel
theorem dL_law_816 : decode code 816 = .ok (.iconst 1, 1) := by decide +kernel
theorem dL_law_817 : decode code 817 = .ok (.iadd, 1) := by decide +kernel
theorem dL_law_818 : decode code 818 = .ok (.iaload, 1) := by decide +kernel
theorem dL_law_819 : decode code 819 = .ok (.invokevirtual 82, 3) := by decide +kernel
theorem dL_law_822 : decode code 822 = .ok (.aload_n 2, 1) := by decide +kernel
theorem dL_law_823 : decode code 823 = .ok (.aload_n 0, 1) := by decide +kernel
theorem dL_law_824 : decode code 824 = .ok (.iload_n 3, 1) := by decide +kernel
theorem dL_law_825 : decode code 825 = .ok (.iconst 1, 1) := by decide +kernel
theorem dL_law_826 : decode code 826 = .ok (.iadd, 1) := by decide +kernel
theorem dL_law_827 : decode code 827 = .ok (.iaload, 1) := by decide +kernel
theorem dL_law_828 : decode code 828 = .ok (.invokevirtual 86, 3) := by decide +kernel
theorem dL_law_831 : decode code 831 = .ok (.lcmp, 1) := by decide +kernel
theorem dL_law_832 : decode code 832 = .ok (.ifCond .eq 111, 3) := by decide +kernel
theorem dL_law_835 : decode code 835 = .ok (.iconst 0, 1) := by decide +kernel
theorem dL_law_836 : decode code 836 = .ok (.ireturn, 1) := by decide +kernel
theorem dL_law_837 : decode code 837 = .ok (.aload_n 1, 1) := by decide +kernel
theorem dL_law_838 : decode code 838 = .ok (.aload_n 0, 1) := by decide +kernel
theorem dL_law_839 : decode code 839 = .ok (.iload_n 3, 1) := by decide +kernel
theorem dL_law_840 : decode code 840 = .ok (.iconst 1, 1) := by decide +kernel
theorem dL_law_841 : decode code 841 = .ok (.iadd, 1) := by decide +kernel
theorem dL_law_842 : decode code 842 = .ok (.iaload, 1) := by decide +kernel
theorem dL_law_843 : decode code 843 = .ok (.invokevirtual 87, 3) := by decide +kernel
theorem dL_law_846 : decode code 846 = .ok (.aload_n 2, 1) := by decide +kernel
theorem dL_law_847 : decode code 847 = .ok (.aload_n 0, 1) := by decide +kernel
theorem dL_law_848 : decode code 848 = .ok (.iload_n 3, 1) := by decide +kernel
theorem dL_law_849 : decode code 849 = .ok (.iconst 1, 1) := by decide +kernel
theorem dL_law_850 : decode code 850 = .ok (.iadd, 1) := by decide +kernel
theorem dL_law_851 : decode code 851 = .ok (.iaload, 1) := by decide +kernel
theorem dL_law_852 : decode code 852 = .ok (.invokevirtual 90, 3) := by decide +kernel
theorem dL_law_855 : decode code 855 = .ok (.lcmp, 1) := by decide +kernel
theorem dL_law_856 : decode code 856 = .ok (.ifCond .eq 87, 3) := by decide +kernel
theorem dL_law_859 : decode code 859 = .ok (.iconst 0, 1) := by decide +kernel
theorem dL_law_860 : decode code 860 = .ok (.ireturn, 1) := by decide +kernel
theorem dL_law_861 : decode code 861 = .ok (.aload_n 1, 1) := by decide +kernel
theorem dL_law_862 : decode code 862 = .ok (.aload_n 0, 1) := by decide +kernel
theorem dL_law_863 : decode code 863 = .ok (.iload_n 3, 1) := by decide +kernel
theorem dL_law_864 : decode code 864 = .ok (.iconst 1, 1) := by decide +kernel
theorem dL_law_865 : decode code 865 = .ok (.iadd, 1) := by decide +kernel
theorem dL_law_866 : decode code 866 = .ok (.iaload, 1) := by decide +kernel
theorem dL_law_867 : decode code 867 = .ok (.invokevirtual 91, 3) := by decide +kernel
theorem dL_law_870 : decode code 870 = .ok (.aload_n 2, 1) := by decide +kernel
theorem dL_law_871 : decode code 871 = .ok (.aload_n 0, 1) := by decide +kernel
theorem dL_law_872 : decode code 872 = .ok (.iload_n 3, 1) := by decide +kernel
theorem dL_law_873 : decode code 873 = .ok (.iconst 1, 1) := by decide +kernel
theorem dL_law_874 : decode code 874 = .ok (.iadd, 1) := by decide +kernel
theorem dL_law_875 : decode code 875 = .ok (.iaload, 1) := by decide +kernel
theorem dL_law_876 : decode code 876 = .ok (.invokevirtual 94, 3) := by decide +kernel
theorem dL_law_879 : decode code 879 = .ok (.lcmp, 1) := by decide +kernel
theorem dL_law_880 : decode code 880 = .ok (.ifCond .eq 63, 3) := by decide +kernel
theorem dL_law_883 : decode code 883 = .ok (.iconst 0, 1) := by decide +kernel
theorem dL_law_884 : decode code 884 = .ok (.ireturn, 1) := by decide +kernel
theorem dL_law_885 : decode code 885 = .ok (.aload_n 1, 1) := by decide +kernel
theorem dL_law_886 : decode code 886 = .ok (.aload_n 0, 1) := by decide +kernel
theorem dL_law_887 : decode code 887 = .ok (.iload_n 3, 1) := by decide +kernel
theorem dL_law_888 : decode code 888 = .ok (.iconst 1, 1) := by decide +kernel
theorem dL_law_889 : decode code 889 = .ok (.iadd, 1) := by decide +kernel
theorem dL_law_890 : decode code 890 = .ok (.iaload, 1) := by decide +kernel
theorem dL_law_891 : decode code 891 = .ok (.invokevirtual 95, 3) := by decide +kernel
theorem dL_law_894 : decode code 894 = .ok (.aload_n 2, 1) := by decide +kernel
theorem dL_law_895 : decode code 895 = .ok (.aload_n 0, 1) := by decide +kernel
theorem dL_law_896 : decode code 896 = .ok (.iload_n 3, 1) := by decide +kernel
theorem dL_law_897 : decode code 897 = .ok (.iconst 1, 1) := by decide +kernel
theorem dL_law_898 : decode code 898 = .ok (.iadd, 1) := by decide +kernel
theorem dL_law_899 : decode code 899 = .ok (.iaload, 1) := by decide +kernel
theorem dL_law_900 : decode code 900 = .ok (.invokevirtual 99, 3) := by decide +kernel
theorem dL_law_903 : decode code 903 = .ok (.if_icmp .eq 40, 3) := by decide +kernel
theorem dL_law_906 : decode code 906 = .ok (.iconst 0, 1) := by decide +kernel
theorem dL_law_907 : decode code 907 = .ok (.ireturn, 1) := by decide +kernel
theorem dL_law_908 : decode code 908 = .ok (.aload_n 1, 1) := by decide +kernel
theorem dL_law_909 : decode code 909 = .ok (.aload_n 0, 1) := by decide +kernel
theorem dL_law_910 : decode code 910 = .ok (.iload_n 3, 1) := by decide +kernel
theorem dL_law_911 : decode code 911 = .ok (.iconst 1, 1) := by decide +kernel
theorem dL_law_912 : decode code 912 = .ok (.iadd, 1) := by decide +kernel
theorem dL_law_913 : decode code 913 = .ok (.iaload, 1) := by decide +kernel
theorem dL_law_914 : decode code 914 = .ok (.invokevirtual 100, 3) := by decide +kernel
theorem dL_law_917 : decode code 917 = .ok (.aload_n 2, 1) := by decide +kernel
theorem dL_law_918 : decode code 918 = .ok (.aload_n 0, 1) := by decide +kernel
theorem dL_law_919 : decode code 919 = .ok (.iload_n 3, 1) := by decide +kernel
theorem dL_law_920 : decode code 920 = .ok (.iconst 1, 1) := by decide +kernel
theorem dL_law_921 : decode code 921 = .ok (.iadd, 1) := by decide +kernel
theorem dL_law_922 : decode code 922 = .ok (.iaload, 1) := by decide +kernel
theorem dL_law_923 : decode code 923 = .ok (.invokevirtual 103, 3) := by decide +kernel
theorem dL_law_926 : decode code 926 = .ok (.lcmp, 1) := by decide +kernel
theorem dL_law_927 : decode code 927 = .ok (.ifCond .eq 16, 3) := by decide +kernel
theorem dL_law_930 : decode code 930 = .ok (.iconst 0, 1) := by decide +kernel
theorem dL_law_931 : decode code 931 = .ok (.ireturn, 1) := by decide +kernel
theorem dL_law_932 : decode code 932 = .ok (.aload_n 1, 1) := by decide +kernel
theorem dL_law_933 : decode code 933 = .ok (.invokevirtual 104, 3) := by decide +kernel
theorem dL_law_936 : decode code 936 = .ok (.aload_n 2, 1) := by decide +kernel
theorem dL_law_937 : decode code 937 = .ok (.invokevirtual 107, 3) := by decide +kernel
theorem dL_law_940 : decode code 940 = .ok (.goto 3, 3) := by decide +kernel
theorem dL_law_943 : decode code 943 = .ok (.iinc 3 6, 3) := by decide +kernel
theorem dL_law_946 : decode code 946 = .ok (.goto (-908), 3) := by decide +kernel
theorem dL_law_949 : decode code 949 = .ok (.iconst 1, 1) := by decide +kernel
theorem dL_law_950 : decode code 950 = .ok (.ireturn, 1) := by decide +kernel
