/-! decode rows of the law's body, 11 -/
theorem dL_law_2672 : decode code 2672 = .ok (.dstore 7, 2) := by decide +kernel
theorem dL_law_2674 : decode code 2674 = .ok (.dload 5, 2) := by decide +kernel
theorem dL_law_2676 : decode code 2676 = .ok (.dload 7, 2) := by decide +kernel
theorem dL_law_2678 : decode code 2678 = .ok (.dcmp .l, 1) := by decide +kernel
theorem dL_law_2679 : decode code 2679 = .ok (.ifCond .eq 21, 3) := by decide +kernel
theorem dL_law_2682 : decode code 2682 = .ok (.dload 5, 2) := by decide +kernel
theorem dL_law_2684 : decode code 2684 = .ok (.dload 5, 2) := by decide +kernel
theorem dL_law_2686 : decode code 2686 = .ok (.dcmp .l, 1) := by decide +kernel
theorem dL_law_2687 : decode code 2687 = .ok (.ifCond .eq 11, 3) := by decide +kernel
theorem dL_law_2690 : decode code 2690 = .ok (.dload 7, 2) := by decide +kernel
theorem dL_law_2692 : decode code 2692 = .ok (.dload 7, 2) := by decide +kernel
theorem dL_law_2694 : decode code 2694 = .ok (.dcmp .l, 1) := by decide +kernel
theorem dL_law_2695 : decode code 2695 = .ok (.ifCond .ne 5, 3) := by decide +kernel
theorem dL_law_2698 : decode code 2698 = .ok (.iconst 0, 1) := by decide +kernel
theorem dL_law_2699 : decode code 2699 = .ok (.ireturn, 1) := by decide +kernel
theorem dL_law_2700 : decode code 2700 = .ok (.goto 781, 3) := by decide +kernel
theorem dL_law_2703 : decode code 2703 = .ok (.aload_n 1, 1) := by decide +kernel
theorem dL_law_2704 : decode code 2704 = .ok (.invokevirtual 340, 3) := by decide +kernel
theorem dL_law_2707 : decode code 2707 = .ok (.aload_n 2, 1) := by decide +kernel
theorem dL_law_2708 : decode code 2708 = .ok (.invokevirtual 343, 3) := by decide +kernel
theorem dL_law_2711 : decode code 2711 = .ok (.if_icmp .eq 770, 3) := by decide +kernel
theorem dL_law_2714 : decode code 2714 = .ok (.iconst 0, 1) := by decide +kernel
theorem dL_law_2715 : decode code 2715 = .ok (.ireturn, 1) := by decide +kernel
theorem dL_law_2716 : decode code 2716 = .ok (.aload_n 1, 1) := by decide +kernel
theorem dL_law_2717 : decode code 2717 = .ok (.aload_n 0, 1) := by decide +kernel
theorem dL_law_2718 : decode code 2718 = .ok (.iload 4, 2) := by decide +kernel
theorem dL_law_2720 : decode code 2720 = .ok (.iconst 1, 1) := by decide +kernel
theorem dL_law_2721 : decode code 2721 = .ok (.iadd, 1) := by decide +kernel
theorem dL_law_2722 : decode code 2722 = .ok (.iaload, 1) := by decide +kernel
theorem dL_law_2723 : decode code 2723 = .ok (.aload_n 0, 1) := by decide +kernel
theorem dL_law_2724 : decode code 2724 = .ok (.iload 4, 2) := by decide +kernel
theorem dL_law_2726 : decode code 2726 = .ok (.iconst 2, 1) := by decide +kernel
theorem dL_law_2727 : decode code 2727 = .ok (.iadd, 1) := by decide +kernel
theorem dL_law_2728 : decode code 2728 = .ok (.iaload, 1) := by decide +kernel
theorem dL_law_2729 : decode code 2729 = .ok (.ifCond .eq 7, 3) := by decide +kernel
theorem dL_law_2732 : decode code 2732 = .ok (.iconst 1, 1) := by decide +kernel
theorem dL_law_2733 : decode code 2733 = .ok (.goto 4, 3) := by decide +kernel
theorem dL_law_2736 : decode code 2736 = .ok (.iconst 0, 1) := by decide +kernel
theorem dL_law_2737 : decode code 2737 = .ok (.aload_n 0, 1) := by decide +kernel
theorem dL_law_2738 : decode code 2738 = .ok (.iload 4, 2) := by decide +kernel
theorem dL_law_2740 : decode code 2740 = .ok (.iconst 3, 1) := by decide +kernel
theorem dL_law_2741 : decode code 2741 = .ok (.iadd, 1) := by decide +kernel
theorem dL_law_2742 : decode code 2742 = .ok (.iaload, 1) := by decide +kernel
theorem dL_law_2743 : decode code 2743 = .ok (.aload_n 3, 1) := by decide +kernel
theorem dL_law_2744 : decode code 2744 = .ok (.invokestatic 344, 3) := by decide +kernel
theorem dL_law_2747 : decode code 2747 = .ok (.istore 5, 2) := by decide +kernel
theorem dL_law_2749 : decode code 2749 = .ok (.aload_n 2, 1) := by decide +kernel
theorem dL_law_2750 : decode code 2750 = .ok (.aload_n 0, 1) := by decide +kernel
theorem dL_law_2751 : decode code 2751 = .ok (.iload 4, 2) := by decide +kernel
theorem dL_law_2753 : decode code 2753 = .ok (.iconst 1, 1) := by decide +kernel
theorem dL_law_2754 : decode code 2754 = .ok (.iadd, 1) := by decide +kernel
theorem dL_law_2755 : decode code 2755 = .ok (.iaload, 1) := by decide +kernel
theorem dL_law_2756 : decode code 2756 = .ok (.aload_n 0, 1) := by decide +kernel
theorem dL_law_2757 : decode code 2757 = .ok (.iload 4, 2) := by decide +kernel
theorem dL_law_2759 : decode code 2759 = .ok (.iconst 2, 1) := by decide +kernel
theorem dL_law_2760 : decode code 2760 = .ok (.iadd, 1) := by decide +kernel
theorem dL_law_2761 : decode code 2761 = .ok (.iaload, 1) := by decide +kernel
theorem dL_law_2762 : decode code 2762 = .ok (.ifCond .eq 7, 3) := by decide +kernel
theorem dL_law_2765 : decode code 2765 = .ok (.iconst 1, 1) := by decide +kernel
theorem dL_law_2766 : decode code 2766 = .ok (.goto 4, 3) := by decide +kernel
theorem dL_law_2769 : decode code 2769 = .ok (.iconst 0, 1) := by decide +kernel
theorem dL_law_2770 : decode code 2770 = .ok (.aload_n 0, 1) := by decide +kernel
theorem dL_law_2771 : decode code 2771 = .ok (.iload 4, 2) := by decide +kernel
theorem dL_law_2773 : decode code 2773 = .ok (.iconst 3, 1) := by decide +kernel
theorem dL_law_2774 : decode code 2774 = .ok (.iadd, 1) := by decide +kernel
theorem dL_law_2775 : decode code 2775 = .ok (.iaload, 1) := by decide +kernel
theorem dL_law_2776 : decode code 2776 = .ok (.invokevirtual 346, 3) := by decide +kernel
theorem dL_law_2779 : decode code 2779 = .ok (.istore 6, 2) := by decide +kernel
theorem dL_law_2781 : decode code 2781 = .ok (.aload_n 2, 1) := by decide +kernel
theorem dL_law_2782 : decode code 2782 = .ok (.invokevirtual 166, 3) := by decide +kernel
theorem dL_law_2785 : decode code 2785 = .ok (.iload 5, 2) := by decide +kernel
theorem dL_law_2787 : decode code 2787 = .ok (.if_icmp .eq 5, 3) := by decide +kernel
theorem dL_law_2790 : decode code 2790 = .ok (.iconst 0, 1) := by decide +kernel
theorem dL_law_2791 : decode code 2791 = .ok (.ireturn, 1) := by decide +kernel
theorem dL_law_2792 : decode code 2792 = .ok (.iload 5, 2) := by decide +kernel
theorem dL_law_2794 : decode code 2794 = .ok (.ifCond .ne 15, 3) := by decide +kernel
theorem dL_law_2797 : decode code 2797 = .ok (.aload_n 3, 1) := by decide +kernel
theorem dL_law_2798 : decode code 2798 = .ok (.iconst 0, 1) := by decide +kernel
theorem dL_law_2799 : decode code 2799 = .ok (.laload, 1) := by decide +kernel
theorem dL_law_2800 : decode code 2800 = .ok (.iload 6, 2) := by decide +kernel
theorem dL_law_2802 : decode code 2802 = .ok (.i2l, 1) := by decide +kernel
theorem dL_law_2803 : decode code 2803 = .ok (.lcmp, 1) := by decide +kernel
theorem dL_law_2804 : decode code 2804 = .ok (.ifCond .eq 5, 3) := by decide +kernel
theorem dL_law_2807 : decode code 2807 = .ok (.iconst 0, 1) := by decide +kernel
theorem dL_law_2808 : decode code 2808 = .ok (.ireturn, 1) := by decide +kernel
theorem dL_law_2809 : decode code 2809 = .ok (.goto 672, 3) := by decide +kernel
theorem dL_law_2812 : decode code 2812 = .ok (.aload_n 1, 1) := by decide +kernel
theorem dL_law_2813 : decode code 2813 = .ok (.aload_n 0, 1) := by decide +kernel
theorem dL_law_2814 : decode code 2814 = .ok (.iload 4, 2) := by decide +kernel
theorem dL_law_2816 : decode code 2816 = .ok (.iconst 1, 1) := by decide +kernel
theorem dL_law_2817 : decode code 2817 = .ok (.iadd, 1) := by decide +kernel
theorem dL_law_2818 : decode code 2818 = .ok (.iaload, 1) := by decide +kernel
theorem dL_law_2819 : decode code 2819 = .ok (.aload_n 0, 1) := by decide +kernel
theorem dL_law_2820 : decode code 2820 = .ok (.iload 4, 2) := by decide +kernel
theorem dL_law_2822 : decode code 2822 = .ok (.iconst 2, 1) := by decide +kernel
theorem dL_law_2823 : decode code 2823 = .ok (.iadd, 1) := by decide +kernel
theorem dL_law_2824 : decode code 2824 = .ok (.iaload, 1) := by decide +kernel
theorem dL_law_2825 : decode code 2825 = .ok (.ifCond .eq 7, 3) := by decide +kernel
theorem dL_law_2828 : decode code 2828 = .ok (.iconst 1, 1) := by decide +kernel
theorem dL_law_2829 : decode code 2829 = .ok (.goto 4, 3) := by decide +kernel
theorem dL_law_2832 : decode code 2832 = .ok (.iconst 0, 1) := by decide +kernel
theorem dL_law_2833 : decode code 2833 = .ok (.aload_n 0, 1) := by decide +kernel
theorem dL_law_2834 : decode code 2834 = .ok (.iload 4, 2) := by decide +kernel
theorem dL_law_2836 : decode code 2836 = .ok (.iconst 3, 1) := by decide +kernel
theorem dL_law_2837 : decode code 2837 = .ok (.iadd, 1) := by decide +kernel
theorem dL_law_2838 : decode code 2838 = .ok (.iaload, 1) := by decide +kernel
theorem dL_law_2839 : decode code 2839 = .ok (.aload_n 0, 1) := by decide +kernel
theorem dL_law_2840 : decode code 2840 = .ok (.iload 4, 2) := by decide +kernel
theorem dL_law_2842 : decode code 2842 = .ok (.iconst 4, 1) := by decide +kernel
theorem dL_law_2843 : decode code 2843 = .ok (.iadd, 1) := by decide +kernel
theorem dL_law_2844 : decode code 2844 = .ok (.iaload, 1) := by decide +kernel
theorem dL_law_2845 : decode code 2845 = .ok (.aload_n 3, 1) := by decide +kernel
theorem dL_law_2846 : decode code 2846 = .ok (.invokestatic 347, 3) := by decide +kernel
theorem dL_law_2849 : decode code 2849 = .ok (.istore 5, 2) := by decide +kernel
theorem dL_law_2851 : decode code 2851 = .ok (.aload_n 2, 1) := by decide +kernel
theorem dL_law_2852 : decode code 2852 = .ok (.aload_n 0, 1) := by decide +kernel
theorem dL_law_2853 : decode code 2853 = .ok (.iload 4, 2) := by decide +kernel
theorem dL_law_2855 : decode code 2855 = .ok (.iconst 1, 1) := by decide +kernel
theorem dL_law_2856 : decode code 2856 = .ok (.iadd, 1) := by decide +kernel
theorem dL_law_2857 : decode code 2857 = .ok (.iaload, 1) := by decide +kernel
theorem dL_law_2858 : decode code 2858 = .ok (.aload_n 0, 1) := by decide +kernel
theorem dL_law_2859 : decode code 2859 = .ok (.iload 4, 2) := by decide +kernel
theorem dL_law_2861 : decode code 2861 = .ok (.iconst 2, 1) := by decide +kernel
theorem dL_law_2862 : decode code 2862 = .ok (.iadd, 1) := by decide +kernel
theorem dL_law_2863 : decode code 2863 = .ok (.iaload, 1) := by decide +kernel
theorem dL_law_2864 : decode code 2864 = .ok (.ifCond .eq 7, 3) := by decide +kernel
theorem dL_law_2867 : decode code 2867 = .ok (.iconst 1, 1) := by decide +kernel
theorem dL_law_2868 : decode code 2868 = .ok (.goto 4, 3) := by decide +kernel
theorem dL_law_2871 : decode code 2871 = .ok (.iconst 0, 1) := by decide +kernel
theorem dL_law_2872 : decode code 2872 = .ok (.aload_n 0, 1) := by decide +kernel
theorem dL_law_2873 : decode code 2873 = .ok (.iload 4, 2) := by decide +kernel
theorem dL_law_2875 : decode code 2875 = .ok (.iconst 3, 1) := by decide +kernel
theorem dL_law_2876 : decode code 2876 = .ok (.iadd, 1) := by decide +kernel
theorem dL_law_2877 : decode code 2877 = .ok (.iaload, 1) := by decide +kernel
theorem dL_law_2878 : decode code 2878 = .ok (.aload_n 0, 1) := by decide +kernel
theorem dL_law_2879 : decode code 2879 = .ok (.iload 4, 2) := by decide +kernel
theorem dL_law_2881 : decode code 2881 = .ok (.iconst 4, 1) := by decide +kernel
theorem dL_law_2882 : decode code 2882 = .ok (.iadd, 1) := by decide +kernel
theorem dL_law_2883 : decode code 2883 = .ok (.iaload, 1) := by decide +kernel
theorem dL_law_2884 : decode code 2884 = .ok (.invokevirtual 350, 3) := by decide +kernel
theorem dL_law_2887 : decode code 2887 = .ok (.istore 6, 2) := by decide +kernel
theorem dL_law_2889 : decode code 2889 = .ok (.aload_n 2, 1) := by decide +kernel
theorem dL_law_2890 : decode code 2890 = .ok (.invokevirtual 166, 3) := by decide +kernel
theorem dL_law_2893 : decode code 2893 = .ok (.iload 5, 2) := by decide +kernel
theorem dL_law_2895 : decode code 2895 = .ok (.if_icmp .eq 5, 3) := by decide +kernel
theorem dL_law_2898 : decode code 2898 = .ok (.iconst 0, 1) := by decide +kernel
theorem dL_law_2899 : decode code 2899 = .ok (.ireturn, 1) := by decide +kernel
theorem dL_law_2900 : decode code 2900 = .ok (.iload 5, 2) := by decide +kernel
theorem dL_law_2902 : decode code 2902 = .ok (.ifCond .ne 15, 3) := by decide +kernel
theorem dL_law_2905 : decode code 2905 = .ok (.aload_n 3, 1) := by decide +kernel
