/-! decode rows of the law's body, 3 -/
theorem dL_law_753 : decode code 753 = .ok (.iconst 0, 1) := by decide +kernel
theorem dL_law_754 : decode code 754 = .ok (.ireturn, 1) := by decide +kernel
theorem dL_law_755 : decode code 755 = .ok (.iload 5, 2) := by decide +kernel
theorem dL_law_757 : decode code 757 = .ok (.ifCond .ne 15, 3) := by decide +kernel
theorem dL_law_760 : decode code 760 = .ok (.aload_n 3, 1) := by decide +kernel
theorem dL_law_761 : decode code 761 = .ok (.iconst 0, 1) := by decide +kernel
theorem dL_law_762 : decode code 762 = .ok (.laload, 1) := by decide +kernel
theorem dL_law_763 : decode code 763 = .ok (.iload 6, 2) := by decide +kernel
theorem dL_law_765 : decode code 765 = .ok (.i2l, 1) := by decide +kernel
theorem dL_law_766 : decode code 766 = .ok (.lcmp, 1) := by decide +kernel
theorem dL_law_767 : decode code 767 = .ok (.ifCond .eq 5, 3) := by decide +kernel
theorem dL_law_770 : decode code 770 = .ok (.iconst 0, 1) := by decide +kernel
theorem dL_law_771 : decode code 771 = .ok (.ireturn, 1) := by decide +kernel
theorem dL_law_772 : decode code 772 = .ok (.goto 2709, 3) := by decide +kernel
theorem dL_law_775 : decode code 775 = .ok (.aload_n 1, 1) := by decide +kernel
theorem dL_law_776 : decode code 776 = .ok (.aload_n 0, 1) := by decide +kernel
theorem dL_law_777 : decode code 777 = .ok (.iload 4, 2) := by decide +kernel
theorem dL_law_779 : decode code 779 = .ok (.iconst 1, 1) := by decide +kernel
theorem dL_law_780 : decode code 780 = .ok (.iadd, 1) := by decide +kernel
theorem dL_law_781 : decode code 781 = .ok (.iaload, 1) := by decide +kernel
theorem dL_law_782 : decode code 782 = .ok (.aload_n 0, 1) := by decide +kernel
theorem dL_law_783 : decode code 783 = .ok (.iload 4, 2) := by decide +kernel
theorem dL_law_785 : decode code 785 = .ok (.iconst 2, 1) := by decide +kernel
theorem dL_law_786 : decode code 786 = .ok (.iadd, 1) := by decide +kernel
theorem dL_law_787 : decode code 787 = .ok (.iaload, 1) := by decide +kernel
theorem dL_law_788 : decode code 788 = .ok (.aload_n 3, 1) := by decide +kernel
theorem dL_law_789 : decode code 789 = .ok (.invokestatic 214, 3) := by decide +kernel
theorem dL_law_792 : decode code 792 = .ok (.istore 5, 2) := by decide +kernel
theorem dL_law_794 : decode code 794 = .ok (.aload_n 2, 1) := by decide +kernel
theorem dL_law_795 : decode code 795 = .ok (.aload_n 0, 1) := by decide +kernel
theorem dL_law_796 : decode code 796 = .ok (.iload 4, 2) := by decide +kernel
theorem dL_law_798 : decode code 798 = .ok (.iconst 1, 1) := by decide +kernel
theorem dL_law_799 : decode code 799 = .ok (.iadd, 1) := by decide +kernel
theorem dL_law_800 : decode code 800 = .ok (.iaload, 1) := by decide +kernel
theorem dL_law_801 : decode code 801 = .ok (.aload_n 0, 1) := by decide +kernel
theorem dL_law_802 : decode code 802 = .ok (.iload 4, 2) := by decide +kernel
theorem dL_law_804 : decode code 804 = .ok (.iconst 2, 1) := by decide +kernel
theorem dL_law_805 : decode code 805 = .ok (.iadd, 1) := by decide +kernel
theorem dL_law_806 : decode code 806 = .ok (.iaload, 1) := by decide +kernel
theorem dL_law_807 : decode code 807 = .ok (.invokevirtual 217, 3) := by decide +kernel
theorem dL_law_810 : decode code 810 = .ok (.istore 6, 2) := by decide +kernel
theorem dL_law_812 : decode code 812 = .ok (.aload_n 2, 1) := by decide +kernel
theorem dL_law_813 : decode code 813 = .ok (.invokevirtual 166, 3) := by decide +kernel
theorem dL_law_816 : decode code 816 = .ok (.iload 5, 2) := by decide +kernel
theorem dL_law_818 : decode code 818 = .ok (.if_icmp .eq 5, 3) := by decide +kernel
theorem dL_law_821 : decode code 821 = .ok (.iconst 0, 1) := by decide +kernel
theorem dL_law_822 : decode code 822 = .ok (.ireturn, 1) := by decide +kernel
theorem dL_law_823 : decode code 823 = .ok (.iload 5, 2) := by decide +kernel
theorem dL_law_825 : decode code 825 = .ok (.ifCond .ne 15, 3) := by decide +kernel
theorem dL_law_828 : decode code 828 = .ok (.aload_n 3, 1) := by decide +kernel
theorem dL_law_829 : decode code 829 = .ok (.iconst 0, 1) := by decide +kernel
theorem dL_law_830 : decode code 830 = .ok (.laload, 1) := by decide +kernel
theorem dL_law_831 : decode code 831 = .ok (.iload 6, 2) := by decide +kernel
theorem dL_law_833 : decode code 833 = .ok (.i2l, 1) := by decide +kernel
theorem dL_law_834 : decode code 834 = .ok (.lcmp, 1) := by decide +kernel
theorem dL_law_835 : decode code 835 = .ok (.ifCond .eq 5, 3) := by decide +kernel
theorem dL_law_838 : decode code 838 = .ok (.iconst 0, 1) := by decide +kernel
theorem dL_law_839 : decode code 839 = .ok (.ireturn, 1) := by decide +kernel
theorem dL_law_840 : decode code 840 = .ok (.goto 2641, 3) := by decide +kernel
theorem dL_law_843 : decode code 843 = .ok (.aload_n 1, 1) := by decide +kernel
theorem dL_law_844 : decode code 844 = .ok (.aload_n 3, 1) := by decide +kernel
theorem dL_law_845 : decode code 845 = .ok (.invokestatic 218, 3) := by decide +kernel
theorem dL_law_848 : decode code 848 = .ok (.istore 5, 2) := by decide +kernel
theorem dL_law_850 : decode code 850 = .ok (.aload_n 2, 1) := by decide +kernel
theorem dL_law_851 : decode code 851 = .ok (.invokevirtual 220, 3) := by decide +kernel
theorem dL_law_854 : decode code 854 = .ok (.istore 6, 2) := by decide +kernel
theorem dL_law_856 : decode code 856 = .ok (.aload_n 2, 1) := by decide +kernel
theorem dL_law_857 : decode code 857 = .ok (.invokevirtual 166, 3) := by decide +kernel
theorem dL_law_860 : decode code 860 = .ok (.iload 5, 2) := by decide +kernel
theorem dL_law_862 : decode code 862 = .ok (.if_icmp .eq 5, 3) := by decide +kernel
theorem dL_law_865 : decode code 865 = .ok (.iconst 0, 1) := by decide +kernel
theorem dL_law_866 : decode code 866 = .ok (.ireturn, 1) := by decide +kernel
theorem dL_law_867 : decode code 867 = .ok (.iload 5, 2) := by decide +kernel
theorem dL_law_869 : decode code 869 = .ok (.ifCond .ne 15, 3) := by decide +kernel
theorem dL_law_872 : decode code 872 = .ok (.aload_n 3, 1) := by decide +kernel
theorem dL_law_873 : decode code 873 = .ok (.iconst 0, 1) := by decide +kernel
theorem dL_law_874 : decode code 874 = .ok (.laload, 1) := by decide +kernel
theorem dL_law_875 : decode code 875 = .ok (.iload 6, 2) := by decide +kernel
theorem dL_law_877 : decode code 877 = .ok (.i2l, 1) := by decide +kernel
theorem dL_law_878 : decode code 878 = .ok (.lcmp, 1) := by decide +kernel
theorem dL_law_879 : decode code 879 = .ok (.ifCond .eq 5, 3) := by decide +kernel
theorem dL_law_882 : decode code 882 = .ok (.iconst 0, 1) := by decide +kernel
theorem dL_law_883 : decode code 883 = .ok (.ireturn, 1) := by decide +kernel
theorem dL_law_884 : decode code 884 = .ok (.goto 2597, 3) := by decide +kernel
theorem dL_law_887 : decode code 887 = .ok (.aload_n 1, 1) := by decide +kernel
theorem dL_law_888 : decode code 888 = .ok (.invokevirtual 221, 3) := by decide +kernel
theorem dL_law_891 : decode code 891 = .ok (.aload_n 2, 1) := by decide +kernel
theorem dL_law_892 : decode code 892 = .ok (.invokevirtual 224, 3) := by decide +kernel
theorem dL_law_895 : decode code 895 = .ok (.if_icmp .eq 2586, 3) := by decide +kernel
theorem dL_law_898 : decode code 898 = .ok (.iconst 0, 1) := by decide +kernel
theorem dL_law_899 : decode code 899 = .ok (.ireturn, 1) := by decide +kernel
theorem dL_law_900 : decode code 900 = .ok (.aload_n 1, 1) := by decide +kernel
theorem dL_law_901 : decode code 901 = .ok (.aload_n 0, 1) := by decide +kernel
theorem dL_law_902 : decode code 902 = .ok (.iload 4, 2) := by decide +kernel
theorem dL_law_904 : decode code 904 = .ok (.iconst 1, 1) := by decide +kernel
theorem dL_law_905 : decode code 905 = .ok (.iadd, 1) := by decide +kernel
theorem dL_law_906 : decode code 906 = .ok (.iaload, 1) := by decide +kernel
theorem dL_law_907 : decode code 907 = .ok (.aload_n 3, 1) := by decide +kernel
theorem dL_law_908 : decode code 908 = .ok (.invokestatic 225, 3) := by decide +kernel
theorem dL_law_911 : decode code 911 = .ok (.istore 5, 2) := by decide +kernel
theorem dL_law_913 : decode code 913 = .ok (.aload_n 2, 1) := by decide +kernel
theorem dL_law_914 : decode code 914 = .ok (.aload_n 0, 1) := by decide +kernel
theorem dL_law_915 : decode code 915 = .ok (.iload 4, 2) := by decide +kernel
theorem dL_law_917 : decode code 917 = .ok (.iconst 1, 1) := by decide +kernel
theorem dL_law_918 : decode code 918 = .ok (.iadd, 1) := by decide +kernel
theorem dL_law_919 : decode code 919 = .ok (.iaload, 1) := by decide +kernel
theorem dL_law_920 : decode code 920 = .ok (.invokevirtual 227, 3) := by decide +kernel
theorem dL_law_923 : decode code 923 = .ok (.istore 6, 2) := by decide +kernel
theorem dL_law_925 : decode code 925 = .ok (.aload_n 2, 1) := by decide +kernel
theorem dL_law_926 : decode code 926 = .ok (.invokevirtual 166, 3) := by decide +kernel
theorem dL_law_929 : decode code 929 = .ok (.iload 5, 2) := by decide +kernel
theorem dL_law_931 : decode code 931 = .ok (.if_icmp .eq 5, 3) := by decide +kernel
theorem dL_law_934 : decode code 934 = .ok (.iconst 0, 1) := by decide +kernel
theorem dL_law_935 : decode code 935 = .ok (.ireturn, 1) := by decide +kernel
theorem dL_law_936 : decode code 936 = .ok (.iload 5, 2) := by decide +kernel
theorem dL_law_938 : decode code 938 = .ok (.ifCond .ne 15, 3) := by decide +kernel
theorem dL_law_941 : decode code 941 = .ok (.aload_n 3, 1) := by decide +kernel
theorem dL_law_942 : decode code 942 = .ok (.iconst 0, 1) := by decide +kernel
theorem dL_law_943 : decode code 943 = .ok (.laload, 1) := by decide +kernel
theorem dL_law_944 : decode code 944 = .ok (.iload 6, 2) := by decide +kernel
theorem dL_law_946 : decode code 946 = .ok (.i2l, 1) := by decide +kernel
theorem dL_law_947 : decode code 947 = .ok (.lcmp, 1) := by decide +kernel
theorem dL_law_948 : decode code 948 = .ok (.ifCond .eq 5, 3) := by decide +kernel
theorem dL_law_951 : decode code 951 = .ok (.iconst 0, 1) := by decide +kernel
theorem dL_law_952 : decode code 952 = .ok (.ireturn, 1) := by decide +kernel
theorem dL_law_953 : decode code 953 = .ok (.goto 2528, 3) := by decide +kernel
theorem dL_law_956 : decode code 956 = .ok (.aload_n 1, 1) := by decide +kernel
theorem dL_law_957 : decode code 957 = .ok (.aload_n 0, 1) := by decide +kernel
theorem dL_law_958 : decode code 958 = .ok (.iload 4, 2) := by decide +kernel
theorem dL_law_960 : decode code 960 = .ok (.iconst 1, 1) := by decide +kernel
theorem dL_law_961 : decode code 961 = .ok (.iadd, 1) := by decide +kernel
theorem dL_law_962 : decode code 962 = .ok (.iaload, 1) := by decide +kernel
theorem dL_law_963 : decode code 963 = .ok (.aload_n 3, 1) := by decide +kernel
theorem dL_law_964 : decode code 964 = .ok (.invokestatic 228, 3) := by decide +kernel
theorem dL_law_967 : decode code 967 = .ok (.istore 5, 2) := by decide +kernel
theorem dL_law_969 : decode code 969 = .ok (.aload_n 2, 1) := by decide +kernel
theorem dL_law_970 : decode code 970 = .ok (.aload_n 0, 1) := by decide +kernel
theorem dL_law_971 : decode code 971 = .ok (.iload 4, 2) := by decide +kernel
theorem dL_law_973 : decode code 973 = .ok (.iconst 1, 1) := by decide +kernel
theorem dL_law_974 : decode code 974 = .ok (.iadd, 1) := by decide +kernel
theorem dL_law_975 : decode code 975 = .ok (.iaload, 1) := by decide +kernel
theorem dL_law_976 : decode code 976 = .ok (.invokevirtual 230, 3) := by decide +kernel
theorem dL_law_979 : decode code 979 = .ok (.istore 6, 2) := by decide +kernel
theorem dL_law_981 : decode code 981 = .ok (.aload_n 2, 1) := by decide +kernel
theorem dL_law_982 : decode code 982 = .ok (.invokevirtual 166, 3) := by decide +kernel
theorem dL_law_985 : decode code 985 = .ok (.iload 5, 2) := by decide +kernel
theorem dL_law_987 : decode code 987 = .ok (.if_icmp .eq 5, 3) := by decide +kernel
theorem dL_law_990 : decode code 990 = .ok (.iconst 0, 1) := by decide +kernel
theorem dL_law_991 : decode code 991 = .ok (.ireturn, 1) := by decide +kernel
theorem dL_law_992 : decode code 992 = .ok (.iload 5, 2) := by decide +kernel
