theorem dL_law_2728 : decode cL_law 2728 = .ok (.aload_n 0, 1) := by decide +kernel
theorem dL_law_2729 : decode cL_law 2729 = .ok (.iload 5, 2) := by decide +kernel
theorem dL_law_2731 : decode cL_law 2731 = .ok (.iconst 4, 1) := by decide +kernel
theorem dL_law_2732 : decode cL_law 2732 = .ok (.iadd, 1) := by decide +kernel
theorem dL_law_2733 : decode cL_law 2733 = .ok (.iaload, 1) := by decide +kernel
theorem dL_law_2734 : decode cL_law 2734 = .ok (.aload_n 3, 1) := by decide +kernel
theorem dL_law_2735 : decode cL_law 2735 = .ok (.invokestatic 301, 3) := by decide +kernel
theorem dL_law_2738 : decode cL_law 2738 = .ok (.istore 6, 2) := by decide +kernel
theorem dL_law_2740 : decode cL_law 2740 = .ok (.aload_n 2, 1) := by decide +kernel
theorem dL_law_2741 : decode cL_law 2741 = .ok (.aload_n 0, 1) := by decide +kernel
theorem dL_law_2742 : decode cL_law 2742 = .ok (.iload 5, 2) := by decide +kernel
theorem dL_law_2744 : decode cL_law 2744 = .ok (.iconst 1, 1) := by decide +kernel
theorem dL_law_2745 : decode cL_law 2745 = .ok (.iadd, 1) := by decide +kernel
theorem dL_law_2746 : decode cL_law 2746 = .ok (.iaload, 1) := by decide +kernel
theorem dL_law_2747 : decode cL_law 2747 = .ok (.aload_n 0, 1) := by decide +kernel
theorem dL_law_2748 : decode cL_law 2748 = .ok (.iload 5, 2) := by decide +kernel
theorem dL_law_2750 : decode cL_law 2750 = .ok (.iconst 2, 1) := by decide +kernel
theorem dL_law_2751 : decode cL_law 2751 = .ok (.iadd, 1) := by decide +kernel
theorem dL_law_2752 : decode cL_law 2752 = .ok (.iaload, 1) := by decide +kernel
theorem dL_law_2753 : decode cL_law 2753 = .ok (.aload_n 0, 1) := by decide +kernel
theorem dL_law_2754 : decode cL_law 2754 = .ok (.iload 5, 2) := by decide +kernel
theorem dL_law_2756 : decode cL_law 2756 = .ok (.iconst 3, 1) := by decide +kernel
theorem dL_law_2757 : decode cL_law 2757 = .ok (.iadd, 1) := by decide +kernel
theorem dL_law_2758 : decode cL_law 2758 = .ok (.iaload, 1) := by decide +kernel
theorem dL_law_2759 : decode cL_law 2759 = .ok (.aload_n 0, 1) := by decide +kernel
theorem dL_law_2760 : decode cL_law 2760 = .ok (.iload 5, 2) := by decide +kernel
theorem dL_law_2762 : decode cL_law 2762 = .ok (.iconst 4, 1) := by decide +kernel
theorem dL_law_2763 : decode cL_law 2763 = .ok (.iadd, 1) := by decide +kernel
theorem dL_law_2764 : decode cL_law 2764 = .ok (.iaload, 1) := by decide +kernel
theorem dL_law_2765 : decode cL_law 2765 = .ok (.invokevirtual 303, 3) := by decide +kernel
theorem dL_law_2768 : decode cL_law 2768 = .ok (.istore 7, 2) := by decide +kernel
theorem dL_law_2770 : decode cL_law 2770 = .ok (.aload_n 2, 1) := by decide +kernel
theorem dL_law_2771 : decode cL_law 2771 = .ok (.invokevirtual 188, 3) := by decide +kernel
theorem dL_law_2774 : decode cL_law 2774 = .ok (.iload 6, 2) := by decide +kernel
theorem dL_law_2776 : decode cL_law 2776 = .ok (.if_icmp .eq 5, 3) := by decide +kernel
theorem dL_law_2779 : decode cL_law 2779 = .ok (.iconst 0, 1) := by decide +kernel
theorem dL_law_2780 : decode cL_law 2780 = .ok (.ireturn, 1) := by decide +kernel
theorem dL_law_2781 : decode cL_law 2781 = .ok (.iload 6, 2) := by decide +kernel
theorem dL_law_2783 : decode cL_law 2783 = .ok (.ifCond .ne 15, 3) := by decide +kernel
theorem dL_law_2786 : decode cL_law 2786 = .ok (.aload_n 3, 1) := by decide +kernel
theorem dL_law_2787 : decode cL_law 2787 = .ok (.iconst 0, 1) := by decide +kernel
theorem dL_law_2788 : decode cL_law 2788 = .ok (.laload, 1) := by decide +kernel
theorem dL_law_2789 : decode cL_law 2789 = .ok (.iload 7, 2) := by decide +kernel
theorem dL_law_2791 : decode cL_law 2791 = .ok (.i2l, 1) := by decide +kernel
theorem dL_law_2792 : decode cL_law 2792 = .ok (.lcmp, 1) := by decide +kernel
theorem dL_law_2793 : decode cL_law 2793 = .ok (.ifCond .eq 5, 3) := by decide +kernel
theorem dL_law_2796 : decode cL_law 2796 = .ok (.iconst 0, 1) := by decide +kernel
theorem dL_law_2797 : decode cL_law 2797 = .ok (.ireturn, 1) := by decide +kernel
theorem dL_law_2798 : decode cL_law 2798 = .ok (.goto 1191, 3) := by decide +kernel
theorem dL_law_2801 : decode cL_law 2801 = .ok (.aload_n 1, 1) := by decide +kernel
theorem dL_law_2802 : decode cL_law 2802 = .ok (.aload_n 0, 1) := by decide +kernel
theorem dL_law_2803 : decode cL_law 2803 = .ok (.iload 5, 2) := by decide +kernel
theorem dL_law_2805 : decode cL_law 2805 = .ok (.iconst 1, 1) := by decide +kernel
theorem dL_law_2806 : decode cL_law 2806 = .ok (.iadd, 1) := by decide +kernel
theorem dL_law_2807 : decode cL_law 2807 = .ok (.iaload, 1) := by decide +kernel
theorem dL_law_2808 : decode cL_law 2808 = .ok (.aload_n 0, 1) := by decide +kernel
theorem dL_law_2809 : decode cL_law 2809 = .ok (.iload 5, 2) := by decide +kernel
theorem dL_law_2811 : decode cL_law 2811 = .ok (.iconst 2, 1) := by decide +kernel
theorem dL_law_2812 : decode cL_law 2812 = .ok (.iadd, 1) := by decide +kernel
theorem dL_law_2813 : decode cL_law 2813 = .ok (.iaload, 1) := by decide +kernel
theorem dL_law_2814 : decode cL_law 2814 = .ok (.aload_n 0, 1) := by decide +kernel
theorem dL_law_2815 : decode cL_law 2815 = .ok (.iload 5, 2) := by decide +kernel
theorem dL_law_2817 : decode cL_law 2817 = .ok (.iconst 3, 1) := by decide +kernel
theorem dL_law_2818 : decode cL_law 2818 = .ok (.iadd, 1) := by decide +kernel
theorem dL_law_2819 : decode cL_law 2819 = .ok (.iaload, 1) := by decide +kernel
theorem dL_law_2820 : decode cL_law 2820 = .ok (.aload_n 0, 1) := by decide +kernel
theorem dL_law_2821 : decode cL_law 2821 = .ok (.iload 5, 2) := by decide +kernel
theorem dL_law_2823 : decode cL_law 2823 = .ok (.iconst 4, 1) := by decide +kernel
theorem dL_law_2824 : decode cL_law 2824 = .ok (.iadd, 1) := by decide +kernel
theorem dL_law_2825 : decode cL_law 2825 = .ok (.iaload, 1) := by decide +kernel
theorem dL_law_2826 : decode cL_law 2826 = .ok (.aload_n 3, 1) := by decide +kernel
theorem dL_law_2827 : decode cL_law 2827 = .ok (.invokestatic 304, 3) := by decide +kernel
theorem dL_law_2830 : decode cL_law 2830 = .ok (.istore 6, 2) := by decide +kernel
theorem dL_law_2832 : decode cL_law 2832 = .ok (.aload_n 2, 1) := by decide +kernel
theorem dL_law_2833 : decode cL_law 2833 = .ok (.aload_n 0, 1) := by decide +kernel
theorem dL_law_2834 : decode cL_law 2834 = .ok (.iload 5, 2) := by decide +kernel
theorem dL_law_2836 : decode cL_law 2836 = .ok (.iconst 1, 1) := by decide +kernel
theorem dL_law_2837 : decode cL_law 2837 = .ok (.iadd, 1) := by decide +kernel
theorem dL_law_2838 : decode cL_law 2838 = .ok (.iaload, 1) := by decide +kernel
theorem dL_law_2839 : decode cL_law 2839 = .ok (.aload_n 0, 1) := by decide +kernel
theorem dL_law_2840 : decode cL_law 2840 = .ok (.iload 5, 2) := by decide +kernel
theorem dL_law_2842 : decode cL_law 2842 = .ok (.iconst 2, 1) := by decide +kernel
theorem dL_law_2843 : decode cL_law 2843 = .ok (.iadd, 1) := by decide +kernel
theorem dL_law_2844 : decode cL_law 2844 = .ok (.iaload, 1) := by decide +kernel
theorem dL_law_2845 : decode cL_law 2845 = .ok (.aload_n 0, 1) := by decide +kernel
theorem dL_law_2846 : decode cL_law 2846 = .ok (.iload 5, 2) := by decide +kernel
theorem dL_law_2848 : decode cL_law 2848 = .ok (.iconst 3, 1) := by decide +kernel
theorem dL_law_2849 : decode cL_law 2849 = .ok (.iadd, 1) := by decide +kernel
theorem dL_law_2850 : decode cL_law 2850 = .ok (.iaload, 1) := by decide +kernel
theorem dL_law_2851 : decode cL_law 2851 = .ok (.aload_n 0, 1) := by decide +kernel
theorem dL_law_2852 : decode cL_law 2852 = .ok (.iload 5, 2) := by decide +kernel
theorem dL_law_2854 : decode cL_law 2854 = .ok (.iconst 4, 1) := by decide +kernel
theorem dL_law_2855 : decode cL_law 2855 = .ok (.iadd, 1) := by decide +kernel
theorem dL_law_2856 : decode cL_law 2856 = .ok (.iaload, 1) := by decide +kernel
theorem dL_law_2857 : decode cL_law 2857 = .ok (.invokevirtual 306, 3) := by decide +kernel
theorem dL_law_2860 : decode cL_law 2860 = .ok (.istore 7, 2) := by decide +kernel
theorem dL_law_2862 : decode cL_law 2862 = .ok (.aload_n 2, 1) := by decide +kernel
theorem dL_law_2863 : decode cL_law 2863 = .ok (.invokevirtual 188, 3) := by decide +kernel
theorem dL_law_2866 : decode cL_law 2866 = .ok (.iload 6, 2) := by decide +kernel
theorem dL_law_2868 : decode cL_law 2868 = .ok (.if_icmp .eq 5, 3) := by decide +kernel
theorem dL_law_2871 : decode cL_law 2871 = .ok (.iconst 0, 1) := by decide +kernel
theorem dL_law_2872 : decode cL_law 2872 = .ok (.ireturn, 1) := by decide +kernel
theorem dL_law_2873 : decode cL_law 2873 = .ok (.iload 6, 2) := by decide +kernel
theorem dL_law_2875 : decode cL_law 2875 = .ok (.ifCond .ne 15, 3) := by decide +kernel
theorem dL_law_2878 : decode cL_law 2878 = .ok (.aload_n 3, 1) := by decide +kernel
theorem dL_law_2879 : decode cL_law 2879 = .ok (.iconst 0, 1) := by decide +kernel
theorem dL_law_2880 : decode cL_law 2880 = .ok (.laload, 1) := by decide +kernel
theorem dL_law_2881 : decode cL_law 2881 = .ok (.iload 7, 2) := by decide +kernel
theorem dL_law_2883 : decode cL_law 2883 = .ok (.i2l, 1) := by decide +kernel
theorem dL_law_2884 : decode cL_law 2884 = .ok (.lcmp, 1) := by decide +kernel
theorem dL_law_2885 : decode cL_law 2885 = .ok (.ifCond .eq 5, 3) := by decide +kernel
theorem dL_law_2888 : decode cL_law 2888 = .ok (.iconst 0, 1) := by decide +kernel
theorem dL_law_2889 : decode cL_law 2889 = .ok (.ireturn, 1) := by decide +kernel
theorem dL_law_2890 : decode cL_law 2890 = .ok (.goto 1099, 3) := by decide +kernel
theorem dL_law_2893 : decode cL_law 2893 = .ok (.aload_n 1, 1) := by decide +kernel
theorem dL_law_2894 : decode cL_law 2894 = .ok (.aload_n 0, 1) := by decide +kernel
theorem dL_law_2895 : decode cL_law 2895 = .ok (.iload 5, 2) := by decide +kernel
theorem dL_law_2897 : decode cL_law 2897 = .ok (.iconst 1, 1) := by decide +kernel
theorem dL_law_2898 : decode cL_law 2898 = .ok (.iadd, 1) := by decide +kernel
theorem dL_law_2899 : decode cL_law 2899 = .ok (.iaload, 1) := by decide +kernel
theorem dL_law_2900 : decode cL_law 2900 = .ok (.aload_n 0, 1) := by decide +kernel
theorem dL_law_2901 : decode cL_law 2901 = .ok (.iload 5, 2) := by decide +kernel
theorem dL_law_2903 : decode cL_law 2903 = .ok (.iconst 2, 1) := by decide +kernel
theorem dL_law_2904 : decode cL_law 2904 = .ok (.iadd, 1) := by decide +kernel
theorem dL_law_2905 : decode cL_law 2905 = .ok (.iaload, 1) := by decide +kernel
theorem dL_law_2906 : decode cL_law 2906 = .ok (.aload_n 0, 1) := by decide +kernel
theorem dL_law_2907 : decode cL_law 2907 = .ok (.iload 5, 2) := by decide +kernel
theorem dL_law_2909 : decode cL_law 2909 = .ok (.iconst 3, 1) := by decide +kernel
theorem dL_law_2910 : decode cL_law 2910 = .ok (.iadd, 1) := by decide +kernel
theorem dL_law_2911 : decode cL_law 2911 = .ok (.iaload, 1) := by decide +kernel
theorem dL_law_2912 : decode cL_law 2912 = .ok (.aload_n 0, 1) := by decide +kernel
theorem dL_law_2913 : decode cL_law 2913 = .ok (.iload 5, 2) := by decide +kernel
theorem dL_law_2915 : decode cL_law 2915 = .ok (.iconst 4, 1) := by decide +kernel
theorem dL_law_2916 : decode cL_law 2916 = .ok (.iadd, 1) := by decide +kernel
theorem dL_law_2917 : decode cL_law 2917 = .ok (.iaload, 1) := by decide +kernel
theorem dL_law_2918 : decode cL_law 2918 = .ok (.aload_n 0, 1) := by decide +kernel
theorem dL_law_2919 : decode cL_law 2919 = .ok (.iload 5, 2) := by decide +kernel
theorem dL_law_2921 : decode cL_law 2921 = .ok (.iconst 5, 1) := by decide +kernel
theorem dL_law_2922 : decode cL_law 2922 = .ok (.iadd, 1) := by decide +kernel
theorem dL_law_2923 : decode cL_law 2923 = .ok (.iaload, 1) := by decide +kernel
theorem dL_law_2924 : decode cL_law 2924 = .ok (.aload_n 3, 1) := by decide +kernel
theorem dL_law_2925 : decode cL_law 2925 = .ok (.invokestatic 307, 3) := by decide +kernel
theorem dL_law_2928 : decode cL_law 2928 = .ok (.istore 6, 2) := by decide +kernel
theorem dL_law_2930 : decode cL_law 2930 = .ok (.aload_n 2, 1) := by decide +kernel
theorem dL_law_2931 : decode cL_law 2931 = .ok (.aload_n 0, 1) := by decide +kernel
theorem dL_law_2932 : decode cL_law 2932 = .ok (.iload 5, 2) := by decide +kernel
theorem dL_law_2934 : decode cL_law 2934 = .ok (.iconst 1, 1) := by decide +kernel
theorem dL_law_2935 : decode cL_law 2935 = .ok (.iadd, 1) := by decide +kernel
theorem dL_law_2936 : decode cL_law 2936 = .ok (.iaload, 1) := by decide +kernel
theorem dL_law_2937 : decode cL_law 2937 = .ok (.aload_n 0, 1) := by decide +kernel
theorem dL_law_2938 : decode cL_law 2938 = .ok (.iload 5, 2) := by decide +kernel
theorem dL_law_2940 : decode cL_law 2940 = .ok (.iconst 2, 1) := by decide +kernel
theorem dL_law_2941 : decode cL_law 2941 = .ok (.iadd, 1) := by decide +kernel
theorem dL_law_2942 : decode cL_law 2942 = .ok (.iaload, 1) := by decide +kernel
theorem dL_law_2943 : decode cL_law 2943 = .ok (.aload_n 0, 1) := by decide +kernel
theorem dL_law_2944 : decode cL_law 2944 = .ok (.iload 5, 2) := by decide +kernel
theorem dL_law_2946 : decode cL_law 2946 = .ok (.iconst 3, 1) := by decide +kernel
theorem dL_law_2947 : decode cL_law 2947 = .ok (.iadd, 1) := by decide +kernel
theorem dL_law_2948 : decode cL_law 2948 = .ok (.iaload, 1) := by decide +kernel
theorem dL_law_2949 : decode cL_law 2949 = .ok (.aload_n 0, 1) := by decide +kernel
theorem dL_law_2950 : decode cL_law 2950 = .ok (.iload 5, 2) := by decide +kernel
theorem dL_law_2952 : decode cL_law 2952 = .ok (.iconst 4, 1) := by decide +kernel
theorem dL_law_2953 : decode cL_law 2953 = .ok (.iadd, 1) := by decide +kernel
theorem dL_law_2954 : decode cL_law 2954 = .ok (.iaload, 1) := by decide +kernel
theorem dL_law_2955 : decode cL_law 2955 = .ok (.aload_n 0, 1) := by decide +kernel
theorem dL_law_2956 : decode cL_law 2956 = .ok (.iload 5, 2) := by decide +kernel
theorem dL_law_2958 : decode cL_law 2958 = .ok (.iconst 5, 1) := by decide +kernel
theorem dL_law_2959 : decode cL_law 2959 = .ok (.iadd, 1) := by decide +kernel
theorem dL_law_2960 : decode cL_law 2960 = .ok (.iaload, 1) := by decide +kernel
theorem dL_law_2961 : decode cL_law 2961 = .ok (.invokevirtual 310, 3) := by decide +kernel
theorem dL_law_2964 : decode cL_law 2964 = .ok (.istore 7, 2) := by decide +kernel
theorem dL_law_2966 : decode cL_law 2966 = .ok (.aload_n 2, 1) := by decide +kernel
theorem dL_law_2967 : decode cL_law 2967 = .ok (.invokevirtual 188, 3) := by decide +kernel
theorem dL_law_2970 : decode cL_law 2970 = .ok (.iload 6, 2) := by decide +kernel
theorem dL_law_2972 : decode cL_law 2972 = .ok (.if_icmp .eq 5, 3) := by decide +kernel
theorem dL_law_2975 : decode cL_law 2975 = .ok (.iconst 0, 1) := by decide +kernel
theorem dL_law_2976 : decode cL_law 2976 = .ok (.ireturn, 1) := by decide +kernel
theorem dL_law_2977 : decode cL_law 2977 = .ok (.iload 6, 2) := by decide +kernel
theorem dL_law_2979 : decode cL_law 2979 = .ok (.ifCond .ne 15, 3) := by decide +kernel
theorem dL_law_2982 : decode cL_law 2982 = .ok (.aload_n 3, 1) := by decide +kernel
theorem dL_law_2983 : decode cL_law 2983 = .ok (.iconst 0, 1) := by decide +kernel
theorem dL_law_2984 : decode cL_law 2984 = .ok (.laload, 1) := by decide +kernel
theorem dL_law_2985 : decode cL_law 2985 = .ok (.iload 7, 2) := by decide +kernel
theorem dL_law_2987 : decode cL_law 2987 = .ok (.i2l, 1) := by decide +kernel
theorem dL_law_2988 : decode cL_law 2988 = .ok (.lcmp, 1) := by decide +kernel
theorem dL_law_2989 : decode cL_law 2989 = .ok (.ifCond .eq 5, 3) := by decide +kernel
theorem dL_law_2992 : decode cL_law 2992 = .ok (.iconst 0, 1) := by decide +kernel
theorem dL_law_2993 : decode cL_law 2993 = .ok (.ireturn, 1) := by decide +kernel
theorem dL_law_2994 : decode cL_law 2994 = .ok (.goto 995, 3) := by decide +kernel
theorem dL_law_2997 : decode cL_law 2997 = .ok (.aload_n 1, 1) := by decide +kernel
theorem dL_law_2998 : decode cL_law 2998 = .ok (.aload_n 0, 1) := by decide +kernel
theorem dL_law_2999 : decode cL_law 2999 = .ok (.iload 5, 2) := by decide +kernel
theorem dL_law_3001 : decode cL_law 3001 = .ok (.iconst 1, 1) := by decide +kernel
theorem dL_law_3002 : decode cL_law 3002 = .ok (.iadd, 1) := by decide +kernel
theorem dL_law_3003 : decode cL_law 3003 = .ok (.iaload, 1) := by decide +kernel
theorem dL_law_3004 : decode cL_law 3004 = .ok (.aload_n 0, 1) := by decide +kernel
theorem dL_law_3005 : decode cL_law 3005 = .ok (.iload 5, 2) := by decide +kernel
theorem dL_law_3007 : decode cL_law 3007 = .ok (.iconst 2, 1) := by decide +kernel
theorem dL_law_3008 : decode cL_law 3008 = .ok (.iadd, 1) := by decide +kernel
theorem dL_law_3009 : decode cL_law 3009 = .ok (.iaload, 1) := by decide +kernel
theorem dL_law_3010 : decode cL_law 3010 = .ok (.aload_n 0, 1) := by decide +kernel
theorem dL_law_3011 : decode cL_law 3011 = .ok (.iload 5, 2) := by decide +kernel
theorem dL_law_3013 : decode cL_law 3013 = .ok (.iconst 3, 1) := by decide +kernel
theorem dL_law_3014 : decode cL_law 3014 = .ok (.iadd, 1) := by decide +kernel
theorem dL_law_3015 : decode cL_law 3015 = .ok (.iaload, 1) := by decide +kernel
theorem dL_law_3016 : decode cL_law 3016 = .ok (.aload_n 0, 1) := by decide +kernel
theorem dL_law_3017 : decode cL_law 3017 = .ok (.iload 5, 2) := by decide +kernel
theorem dL_law_3019 : decode cL_law 3019 = .ok (.iconst 4, 1) := by decide +kernel
theorem dL_law_3020 : decode cL_law 3020 = .ok (.iadd, 1) := by decide +kernel
theorem dL_law_3021 : decode cL_law 3021 = .ok (.iaload, 1) := by decide +kernel
theorem dL_law_3022 : decode cL_law 3022 = .ok (.aload_n 0, 1) := by decide +kernel
theorem dL_law_3023 : decode cL_law 3023 = .ok (.iload 5, 2) := by decide +kernel
theorem dL_law_3025 : decode cL_law 3025 = .ok (.iconst 5, 1) := by decide +kernel
theorem dL_law_3026 : decode cL_law 3026 = .ok (.iadd, 1) := by decide +kernel
theorem dL_law_3027 : decode cL_law 3027 = .ok (.iaload, 1) := by decide +kernel
theorem dL_law_3028 : decode cL_law 3028 = .ok (.aload_n 3, 1) := by decide +kernel
theorem dL_law_3029 : decode cL_law 3029 = .ok (.invokestatic 311, 3) := by decide +kernel
theorem dL_law_3032 : decode cL_law 3032 = .ok (.istore 6, 2) := by decide +kernel
theorem dL_law_3034 : decode cL_law 3034 = .ok (.aload_n 2, 1) := by decide +kernel
theorem dL_law_3035 : decode cL_law 3035 = .ok (.aload_n 0, 1) := by decide +kernel
theorem dL_law_3036 : decode cL_law 3036 = .ok (.iload 5, 2) := by decide +kernel
theorem dL_law_3038 : decode cL_law 3038 = .ok (.iconst 1, 1) := by decide +kernel
theorem dL_law_3039 : decode cL_law 3039 = .ok (.iadd, 1) := by decide +kernel
theorem dL_law_3040 : decode cL_law 3040 = .ok (.iaload, 1) := by decide +kernel
theorem dL_law_3041 : decode cL_law 3041 = .ok (.aload_n 0, 1) := by decide +kernel
theorem dL_law_3042 : decode cL_law 3042 = .ok (.iload 5, 2) := by decide +kernel
theorem dL_law_3044 : decode cL_law 3044 = .ok (.iconst 2, 1) := by decide +kernel
theorem dL_law_3045 : decode cL_law 3045 = .ok (.iadd, 1) := by decide +kernel
theorem dL_law_3046 : decode cL_law 3046 = .ok (.iaload, 1) := by decide +kernel
theorem dL_law_3047 : decode cL_law 3047 = .ok (.aload_n 0, 1) := by decide +kernel
theorem dL_law_3048 : decode cL_law 3048 = .ok (.iload 5, 2) := by decide +kernel
theorem dL_law_3050 : decode cL_law 3050 = .ok (.iconst 3, 1) := by decide +kernel
theorem dL_law_3051 : decode cL_law 3051 = .ok (.iadd, 1) := by decide +kernel
theorem dL_law_3052 : decode cL_law 3052 = .ok (.iaload, 1) := by decide +kernel
theorem dL_law_3053 : decode cL_law 3053 = .ok (.aload_n 0, 1) := by decide +kernel
theorem dL_law_3054 : decode cL_law 3054 = .ok (.iload 5, 2) := by decide +kernel
theorem dL_law_3056 : decode cL_law 3056 = .ok (.iconst 4, 1) := by decide +kernel
theorem dL_law_3057 : decode cL_law 3057 = .ok (.iadd, 1) := by decide +kernel
theorem dL_law_3058 : decode cL_law 3058 = .ok (.iaload, 1) := by decide +kernel
theorem dL_law_3059 : decode cL_law 3059 = .ok (.aload_n 0, 1) := by decide +kernel
theorem dL_law_3060 : decode cL_law 3060 = .ok (.iload 5, 2) := by decide +kernel
theorem dL_law_3062 : decode cL_law 3062 = .ok (.iconst 5, 1) := by decide +kernel
theorem dL_law_3063 : decode cL_law 3063 = .ok (.iadd, 1) := by decide +kernel
theorem dL_law_3064 : decode cL_law 3064 = .ok (.iaload, 1) := by decide +kernel
theorem dL_law_3065 : decode cL_law 3065 = .ok (.invokevirtual 313, 3) := by decide +kernel
theorem dL_law_3068 : decode cL_law 3068 = .ok (.istore 7, 2) := by decide +kernel
theorem dL_law_3070 : decode cL_law 3070 = .ok (.aload_n 2, 1) := by decide +kernel
theorem dL_law_3071 : decode cL_law 3071 = .ok (.invokevirtual 188, 3) := by decide +kernel
theorem dL_law_3074 : decode cL_law 3074 = .ok (.iload 6, 2) := by decide +kernel
theorem dL_law_3076 : decode cL_law 3076 = .ok (.if_icmp .eq 5, 3) := by decide +kernel
theorem dL_law_3079 : decode cL_law 3079 = .ok (.iconst 0, 1) := by decide +kernel
theorem dL_law_3080 : decode cL_law 3080 = .ok (.ireturn, 1) := by decide +kernel
theorem dL_law_3081 : decode cL_law 3081 = .ok (.iload 6, 2) := by decide +kernel
theorem dL_law_3083 : decode cL_law 3083 = .ok (.ifCond .ne 22, 3) := by decide +kernel
theorem dL_law_3086 : decode cL_law 3086 = .ok (.aload_n 3, 1) := by decide +kernel
theorem dL_law_3087 : decode cL_law 3087 = .ok (.iconst 0, 1) := by decide +kernel
theorem dL_law_3088 : decode cL_law 3088 = .ok (.laload, 1) := by decide +kernel
theorem dL_law_3089 : decode cL_law 3089 = .ok (.iload 7, 2) := by decide +kernel
theorem dL_law_3091 : decode cL_law 3091 = .ok (.ifCond .eq 7, 3) := by decide +kernel
theorem dL_law_3094 : decode cL_law 3094 = .ok (.lconst 1, 1) := by decide +kernel
theorem dL_law_3095 : decode cL_law 3095 = .ok (.goto 4, 3) := by decide +kernel
theorem dL_law_3098 : decode cL_law 3098 = .ok (.lconst 0, 1) := by decide +kernel
theorem dL_law_3099 : decode cL_law 3099 = .ok (.lcmp, 1) := by decide +kernel
theorem dL_law_3100 : decode cL_law 3100 = .ok (.ifCond .eq 5, 3) := by decide +kernel
theorem dL_law_3103 : decode cL_law 3103 = .ok (.iconst 0, 1) := by decide +kernel
theorem dL_law_3104 : decode cL_law 3104 = .ok (.ireturn, 1) := by decide +kernel
theorem dL_law_3105 : decode cL_law 3105 = .ok (.goto 884, 3) := by decide +kernel
theorem dL_law_3108 : decode cL_law 3108 = .ok (.aload_n 1, 1) := by decide +kernel
theorem dL_law_3109 : decode cL_law 3109 = .ok (.aload_n 0, 1) := by decide +kernel
theorem dL_law_3110 : decode cL_law 3110 = .ok (.iload 5, 2) := by decide +kernel
theorem dL_law_3112 : decode cL_law 3112 = .ok (.iconst 1, 1) := by decide +kernel
theorem dL_law_3113 : decode cL_law 3113 = .ok (.iadd, 1) := by decide +kernel
theorem dL_law_3114 : decode cL_law 3114 = .ok (.iaload, 1) := by decide +kernel
theorem dL_law_3115 : decode cL_law 3115 = .ok (.aload_n 0, 1) := by decide +kernel
theorem dL_law_3116 : decode cL_law 3116 = .ok (.iload 5, 2) := by decide +kernel
theorem dL_law_3118 : decode cL_law 3118 = .ok (.iconst 2, 1) := by decide +kernel
theorem dL_law_3119 : decode cL_law 3119 = .ok (.iadd, 1) := by decide +kernel
theorem dL_law_3120 : decode cL_law 3120 = .ok (.iaload, 1) := by decide +kernel
theorem dL_law_3121 : decode cL_law 3121 = .ok (.aload_n 0, 1) := by decide +kernel
theorem dL_law_3122 : decode cL_law 3122 = .ok (.iload 5, 2) := by decide +kernel
theorem dL_law_3124 : decode cL_law 3124 = .ok (.iconst 3, 1) := by decide +kernel
theorem dL_law_3125 : decode cL_law 3125 = .ok (.iadd, 1) := by decide +kernel
theorem dL_law_3126 : decode cL_law 3126 = .ok (.iaload, 1) := by decide +kernel
theorem dL_law_3127 : decode cL_law 3127 = .ok (.aload_n 0, 1) := by decide +kernel
theorem dL_law_3128 : decode cL_law 3128 = .ok (.iload 5, 2) := by decide +kernel
theorem dL_law_3130 : decode cL_law 3130 = .ok (.iconst 4, 1) := by decide +kernel
theorem dL_law_3131 : decode cL_law 3131 = .ok (.iadd, 1) := by decide +kernel
theorem dL_law_3132 : decode cL_law 3132 = .ok (.iaload, 1) := by decide +kernel
theorem dL_law_3133 : decode cL_law 3133 = .ok (.aload_n 0, 1) := by decide +kernel
theorem dL_law_3134 : decode cL_law 3134 = .ok (.iload 5, 2) := by decide +kernel
theorem dL_law_3136 : decode cL_law 3136 = .ok (.iconst 5, 1) := by decide +kernel
theorem dL_law_3137 : decode cL_law 3137 = .ok (.iadd, 1) := by decide +kernel
theorem dL_law_3138 : decode cL_law 3138 = .ok (.iaload, 1) := by decide +kernel
theorem dL_law_3139 : decode cL_law 3139 = .ok (.aload_n 3, 1) := by decide +kernel
theorem dL_law_3140 : decode cL_law 3140 = .ok (.invokestatic 314, 3) := by decide +kernel
theorem dL_law_3143 : decode cL_law 3143 = .ok (.istore 6, 2) := by decide +kernel
theorem dL_law_3145 : decode cL_law 3145 = .ok (.aload_n 2, 1) := by decide +kernel
theorem dL_law_3146 : decode cL_law 3146 = .ok (.aload_n 0, 1) := by decide +kernel
theorem dL_law_3147 : decode cL_law 3147 = .ok (.iload 5, 2) := by decide +kernel
theorem dL_law_3149 : decode cL_law 3149 = .ok (.iconst 1, 1) := by decide +kernel
theorem dL_law_3150 : decode cL_law 3150 = .ok (.iadd, 1) := by decide +kernel
theorem dL_law_3151 : decode cL_law 3151 = .ok (.iaload, 1) := by decide +kernel
theorem dL_law_3152 : decode cL_law 3152 = .ok (.aload_n 0, 1) := by decide +kernel
theorem dL_law_3153 : decode cL_law 3153 = .ok (.iload 5, 2) := by decide +kernel
theorem dL_law_3155 : decode cL_law 3155 = .ok (.iconst 2, 1) := by decide +kernel
theorem dL_law_3156 : decode cL_law 3156 = .ok (.iadd, 1) := by decide +kernel
theorem dL_law_3157 : decode cL_law 3157 = .ok (.iaload, 1) := by decide +kernel
theorem dL_law_3158 : decode cL_law 3158 = .ok (.aload_n 0, 1) := by decide +kernel
theorem dL_law_3159 : decode cL_law 3159 = .ok (.iload 5, 2) := by decide +kernel
theorem dL_law_3161 : decode cL_law 3161 = .ok (.iconst 3, 1) := by decide +kernel
theorem dL_law_3162 : decode cL_law 3162 = .ok (.iadd, 1) := by decide +kernel
theorem dL_law_3163 : decode cL_law 3163 = .ok (.iaload, 1) := by decide +kernel
theorem dL_law_3164 : decode cL_law 3164 = .ok (.aload_n 0, 1) := by decide +kernel
theorem dL_law_3165 : decode cL_law 3165 = .ok (.iload 5, 2) := by decide +kernel
theorem dL_law_3167 : decode cL_law 3167 = .ok (.iconst 4, 1) := by decide +kernel
theorem dL_law_3168 : decode cL_law 3168 = .ok (.iadd, 1) := by decide +kernel
theorem dL_law_3169 : decode cL_law 3169 = .ok (.iaload, 1) := by decide +kernel
theorem dL_law_3170 : decode cL_law 3170 = .ok (.aload_n 0, 1) := by decide +kernel
theorem dL_law_3171 : decode cL_law 3171 = .ok (.iload 5, 2) := by decide +kernel
theorem dL_law_3173 : decode cL_law 3173 = .ok (.iconst 5, 1) := by decide +kernel
theorem dL_law_3174 : decode cL_law 3174 = .ok (.iadd, 1) := by decide +kernel
theorem dL_law_3175 : decode cL_law 3175 = .ok (.iaload, 1) := by decide +kernel
theorem dL_law_3176 : decode cL_law 3176 = .ok (.invokevirtual 316, 3) := by decide +kernel
theorem dL_law_3179 : decode cL_law 3179 = .ok (.istore 7, 2) := by decide +kernel
theorem dL_law_3181 : decode cL_law 3181 = .ok (.aload_n 2, 1) := by decide +kernel
theorem dL_law_3182 : decode cL_law 3182 = .ok (.invokevirtual 188, 3) := by decide +kernel
theorem dL_law_3185 : decode cL_law 3185 = .ok (.iload 6, 2) := by decide +kernel
theorem dL_law_3187 : decode cL_law 3187 = .ok (.if_icmp .eq 5, 3) := by decide +kernel
theorem dL_law_3190 : decode cL_law 3190 = .ok (.iconst 0, 1) := by decide +kernel
theorem dL_law_3191 : decode cL_law 3191 = .ok (.ireturn, 1) := by decide +kernel
theorem dL_law_3192 : decode cL_law 3192 = .ok (.iload 6, 2) := by decide +kernel
theorem dL_law_3194 : decode cL_law 3194 = .ok (.ifCond .ne 15, 3) := by decide +kernel
theorem dL_law_3197 : decode cL_law 3197 = .ok (.aload_n 3, 1) := by decide +kernel
theorem dL_law_3198 : decode cL_law 3198 = .ok (.iconst 0, 1) := by decide +kernel
theorem dL_law_3199 : decode cL_law 3199 = .ok (.laload, 1) := by decide +kernel
theorem dL_law_3200 : decode cL_law 3200 = .ok (.iload 7, 2) := by decide +kernel
theorem dL_law_3202 : decode cL_law 3202 = .ok (.i2l, 1) := by decide +kernel
theorem dL_law_3203 : decode cL_law 3203 = .ok (.lcmp, 1) := by decide +kernel
theorem dL_law_3204 : decode cL_law 3204 = .ok (.ifCond .eq 5, 3) := by decide +kernel
theorem dL_law_3207 : decode cL_law 3207 = .ok (.iconst 0, 1) := by decide +kernel
theorem dL_law_3208 : decode cL_law 3208 = .ok (.ireturn, 1) := by decide +kernel
theorem dL_law_3209 : decode cL_law 3209 = .ok (.goto 780, 3) := by decide +kernel
theorem dL_law_3212 : decode cL_law 3212 = .ok (.aload_n 1, 1) := by decide +kernel
theorem dL_law_3213 : decode cL_law 3213 = .ok (.invokevirtual 317, 3) := by decide +kernel
theorem dL_law_3216 : decode cL_law 3216 = .ok (.aload_n 2, 1) := by decide +kernel
theorem dL_law_3217 : decode cL_law 3217 = .ok (.invokevirtual 320, 3) := by decide +kernel
theorem dL_law_3220 : decode cL_law 3220 = .ok (.if_icmp .eq 769, 3) := by decide +kernel
theorem dL_law_3223 : decode cL_law 3223 = .ok (.iconst 0, 1) := by decide +kernel
theorem dL_law_3224 : decode cL_law 3224 = .ok (.ireturn, 1) := by decide +kernel
theorem dL_law_3225 : decode cL_law 3225 = .ok (.aload_n 1, 1) := by decide +kernel
theorem dL_law_3226 : decode cL_law 3226 = .ok (.aload_n 0, 1) := by decide +kernel
theorem dL_law_3227 : decode cL_law 3227 = .ok (.iload 5, 2) := by decide +kernel
theorem dL_law_3229 : decode cL_law 3229 = .ok (.iconst 1, 1) := by decide +kernel
theorem dL_law_3230 : decode cL_law 3230 = .ok (.iadd, 1) := by decide +kernel
theorem dL_law_3231 : decode cL_law 3231 = .ok (.iaload, 1) := by decide +kernel
theorem dL_law_3232 : decode cL_law 3232 = .ok (.aload_n 0, 1) := by decide +kernel
theorem dL_law_3233 : decode cL_law 3233 = .ok (.iload 5, 2) := by decide +kernel
theorem dL_law_3235 : decode cL_law 3235 = .ok (.iconst 2, 1) := by decide +kernel
theorem dL_law_3236 : decode cL_law 3236 = .ok (.iadd, 1) := by decide +kernel
theorem dL_law_3237 : decode cL_law 3237 = .ok (.iaload, 1) := by decide +kernel
theorem dL_law_3238 : decode cL_law 3238 = .ok (.aload_n 3, 1) := by decide +kernel
theorem dL_law_3239 : decode cL_law 3239 = .ok (.invokestatic 321, 3) := by decide +kernel
theorem dL_law_3242 : decode cL_law 3242 = .ok (.istore 6, 2) := by decide +kernel
theorem dL_law_3244 : decode cL_law 3244 = .ok (.aload_n 2, 1) := by decide +kernel
theorem dL_law_3245 : decode cL_law 3245 = .ok (.aload_n 0, 1) := by decide +kernel
theorem dL_law_3246 : decode cL_law 3246 = .ok (.iload 5, 2) := by decide +kernel
theorem dL_law_3248 : decode cL_law 3248 = .ok (.iconst 1, 1) := by decide +kernel
theorem dL_law_3249 : decode cL_law 3249 = .ok (.iadd, 1) := by decide +kernel
theorem dL_law_3250 : decode cL_law 3250 = .ok (.iaload, 1) := by decide +kernel
theorem dL_law_3251 : decode cL_law 3251 = .ok (.aload_n 0, 1) := by decide +kernel
theorem dL_law_3252 : decode cL_law 3252 = .ok (.iload 5, 2) := by decide +kernel
theorem dL_law_3254 : decode cL_law 3254 = .ok (.iconst 2, 1) := by decide +kernel
theorem dL_law_3255 : decode cL_law 3255 = .ok (.iadd, 1) := by decide +kernel
theorem dL_law_3256 : decode cL_law 3256 = .ok (.iaload, 1) := by decide +kernel
theorem dL_law_3257 : decode cL_law 3257 = .ok (.invokevirtual 323, 3) := by decide +kernel
theorem dL_law_3260 : decode cL_law 3260 = .ok (.istore 7, 2) := by decide +kernel
theorem dL_law_3262 : decode cL_law 3262 = .ok (.aload_n 2, 1) := by decide +kernel
theorem dL_law_3263 : decode cL_law 3263 = .ok (.invokevirtual 188, 3) := by decide +kernel
theorem dL_law_3266 : decode cL_law 3266 = .ok (.iload 6, 2) := by decide +kernel
theorem dL_law_3268 : decode cL_law 3268 = .ok (.if_icmp .eq 5, 3) := by decide +kernel
theorem dL_law_3271 : decode cL_law 3271 = .ok (.iconst 0, 1) := by decide +kernel
theorem dL_law_3272 : decode cL_law 3272 = .ok (.ireturn, 1) := by decide +kernel
theorem dL_law_3273 : decode cL_law 3273 = .ok (.iload 6, 2) := by decide +kernel
theorem dL_law_3275 : decode cL_law 3275 = .ok (.ifCond .ne 15, 3) := by decide +kernel
theorem dL_law_3278 : decode cL_law 3278 = .ok (.aload_n 3, 1) := by decide +kernel
theorem dL_law_3279 : decode cL_law 3279 = .ok (.iconst 0, 1) := by decide +kernel
theorem dL_law_3280 : decode cL_law 3280 = .ok (.laload, 1) := by decide +kernel
theorem dL_law_3281 : decode cL_law 3281 = .ok (.iload 7, 2) := by decide +kernel
theorem dL_law_3283 : decode cL_law 3283 = .ok (.i2l, 1) := by decide +kernel
theorem dL_law_3284 : decode cL_law 3284 = .ok (.lcmp, 1) := by decide +kernel
theorem dL_law_3285 : decode cL_law 3285 = .ok (.ifCond .eq 5, 3) := by decide +kernel
theorem dL_law_3288 : decode cL_law 3288 = .ok (.iconst 0, 1) := by decide +kernel
theorem dL_law_3289 : decode cL_law 3289 = .ok (.ireturn, 1) := by decide +kernel
theorem dL_law_3290 : decode cL_law 3290 = .ok (.goto 699, 3) := by decide +kernel
theorem dL_law_3293 : decode cL_law 3293 = .ok (.aload_n 1, 1) := by decide +kernel
theorem dL_law_3294 : decode cL_law 3294 = .ok (.aload_n 0, 1) := by decide +kernel
theorem dL_law_3295 : decode cL_law 3295 = .ok (.iload 5, 2) := by decide +kernel
theorem dL_law_3297 : decode cL_law 3297 = .ok (.iconst 1, 1) := by decide +kernel
theorem dL_law_3298 : decode cL_law 3298 = .ok (.iadd, 1) := by decide +kernel
theorem dL_law_3299 : decode cL_law 3299 = .ok (.iaload, 1) := by decide +kernel
theorem dL_law_3300 : decode cL_law 3300 = .ok (.aload_n 3, 1) := by decide +kernel
theorem dL_law_3301 : decode cL_law 3301 = .ok (.invokestatic 324, 3) := by decide +kernel
theorem dL_law_3304 : decode cL_law 3304 = .ok (.istore 6, 2) := by decide +kernel
theorem dL_law_3306 : decode cL_law 3306 = .ok (.aload_n 2, 1) := by decide +kernel
theorem dL_law_3307 : decode cL_law 3307 = .ok (.aload_n 0, 1) := by decide +kernel
theorem dL_law_3308 : decode cL_law 3308 = .ok (.iload 5, 2) := by decide +kernel
theorem dL_law_3310 : decode cL_law 3310 = .ok (.iconst 1, 1) := by decide +kernel
theorem dL_law_3311 : decode cL_law 3311 = .ok (.iadd, 1) := by decide +kernel
theorem dL_law_3312 : decode cL_law 3312 = .ok (.iaload, 1) := by decide +kernel
theorem dL_law_3313 : decode cL_law 3313 = .ok (.invokevirtual 326, 3) := by decide +kernel
theorem dL_law_3316 : decode cL_law 3316 = .ok (.istore 7, 2) := by decide +kernel
theorem dL_law_3318 : decode cL_law 3318 = .ok (.aload_n 2, 1) := by decide +kernel
theorem dL_law_3319 : decode cL_law 3319 = .ok (.invokevirtual 188, 3) := by decide +kernel
theorem dL_law_3322 : decode cL_law 3322 = .ok (.iload 6, 2) := by decide +kernel
theorem dL_law_3324 : decode cL_law 3324 = .ok (.if_icmp .eq 5, 3) := by decide +kernel
theorem dL_law_3327 : decode cL_law 3327 = .ok (.iconst 0, 1) := by decide +kernel
theorem dL_law_3328 : decode cL_law 3328 = .ok (.ireturn, 1) := by decide +kernel
theorem dL_law_3329 : decode cL_law 3329 = .ok (.iload 6, 2) := by decide +kernel
theorem dL_law_3331 : decode cL_law 3331 = .ok (.ifCond .ne 15, 3) := by decide +kernel
theorem dL_law_3334 : decode cL_law 3334 = .ok (.aload_n 3, 1) := by decide +kernel
theorem dL_law_3335 : decode cL_law 3335 = .ok (.iconst 0, 1) := by decide +kernel
theorem dL_law_3336 : decode cL_law 3336 = .ok (.laload, 1) := by decide +kernel
theorem dL_law_3337 : decode cL_law 3337 = .ok (.iload 7, 2) := by decide +kernel
theorem dL_law_3339 : decode cL_law 3339 = .ok (.i2l, 1) := by decide +kernel
theorem dL_law_3340 : decode cL_law 3340 = .ok (.lcmp, 1) := by decide +kernel
theorem dL_law_3341 : decode cL_law 3341 = .ok (.ifCond .eq 5, 3) := by decide +kernel
theorem dL_law_3344 : decode cL_law 3344 = .ok (.iconst 0, 1) := by decide +kernel
theorem dL_law_3345 : decode cL_law 3345 = .ok (.ireturn, 1) := by decide +kernel
theorem dL_law_3346 : decode cL_law 3346 = .ok (.goto 643, 3) := by decide +kernel
theorem dL_law_3349 : decode cL_law 3349 = .ok (.aload_n 1, 1) := by decide +kernel
theorem dL_law_3350 : decode cL_law 3350 = .ok (.aload_n 0, 1) := by decide +kernel
theorem dL_law_3351 : decode cL_law 3351 = .ok (.iload 5, 2) := by decide +kernel
theorem dL_law_3353 : decode cL_law 3353 = .ok (.iconst 1, 1) := by decide +kernel
theorem dL_law_3354 : decode cL_law 3354 = .ok (.iadd, 1) := by decide +kernel
theorem dL_law_3355 : decode cL_law 3355 = .ok (.iaload, 1) := by decide +kernel
theorem dL_law_3356 : decode cL_law 3356 = .ok (.aload_n 0, 1) := by decide +kernel
theorem dL_law_3357 : decode cL_law 3357 = .ok (.iload 5, 2) := by decide +kernel
theorem dL_law_3359 : decode cL_law 3359 = .ok (.iconst 2, 1) := by decide +kernel
theorem dL_law_3360 : decode cL_law 3360 = .ok (.iadd, 1) := by decide +kernel
theorem dL_law_3361 : decode cL_law 3361 = .ok (.iaload, 1) := by decide +kernel
theorem dL_law_3362 : decode cL_law 3362 = .ok (.aload_n 3, 1) := by decide +kernel
theorem dL_law_3363 : decode cL_law 3363 = .ok (.invokestatic 327, 3) := by decide +kernel
theorem dL_law_3366 : decode cL_law 3366 = .ok (.istore 6, 2) := by decide +kernel
theorem dL_law_3368 : decode cL_law 3368 = .ok (.aload_n 2, 1) := by decide +kernel
theorem dL_law_3369 : decode cL_law 3369 = .ok (.aload_n 0, 1) := by decide +kernel
theorem dL_law_3370 : decode cL_law 3370 = .ok (.iload 5, 2) := by decide +kernel
theorem dL_law_3372 : decode cL_law 3372 = .ok (.iconst 1, 1) := by decide +kernel
theorem dL_law_3373 : decode cL_law 3373 = .ok (.iadd, 1) := by decide +kernel
theorem dL_law_3374 : decode cL_law 3374 = .ok (.iaload, 1) := by decide +kernel
theorem dL_law_3375 : decode cL_law 3375 = .ok (.aload_n 0, 1) := by decide +kernel
theorem dL_law_3376 : decode cL_law 3376 = .ok (.iload 5, 2) := by decide +kernel
theorem dL_law_3378 : decode cL_law 3378 = .ok (.iconst 2, 1) := by decide +kernel
theorem dL_law_3379 : decode cL_law 3379 = .ok (.iadd, 1) := by decide +kernel
theorem dL_law_3380 : decode cL_law 3380 = .ok (.iaload, 1) := by decide +kernel
theorem dL_law_3381 : decode cL_law 3381 = .ok (.invokevirtual 329, 3) := by decide +kernel
theorem dL_law_3384 : decode cL_law 3384 = .ok (.istore 7, 2) := by decide +kernel
theorem dL_law_3386 : decode cL_law 3386 = .ok (.aload_n 2, 1) := by decide +kernel
theorem dL_law_3387 : decode cL_law 3387 = .ok (.invokevirtual 188, 3) := by decide +kernel
theorem dL_law_3390 : decode cL_law 3390 = .ok (.iload 6, 2) := by decide +kernel
theorem dL_law_3392 : decode cL_law 3392 = .ok (.if_icmp .eq 5, 3) := by decide +kernel
theorem dL_law_3395 : decode cL_law 3395 = .ok (.iconst 0, 1) := by decide +kernel
theorem dL_law_3396 : decode cL_law 3396 = .ok (.ireturn, 1) := by decide +kernel
theorem dL_law_3397 : decode cL_law 3397 = .ok (.iload 6, 2) := by decide +kernel
theorem dL_law_3399 : decode cL_law 3399 = .ok (.ifCond .ne 15, 3) := by decide +kernel
theorem dL_law_3402 : decode cL_law 3402 = .ok (.aload_n 3, 1) := by decide +kernel
theorem dL_law_3403 : decode cL_law 3403 = .ok (.iconst 0, 1) := by decide +kernel
theorem dL_law_3404 : decode cL_law 3404 = .ok (.laload, 1) := by decide +kernel
theorem dL_law_3405 : decode cL_law 3405 = .ok (.iload 7, 2) := by decide +kernel
theorem dL_law_3407 : decode cL_law 3407 = .ok (.i2l, 1) := by decide +kernel
theorem dL_law_3408 : decode cL_law 3408 = .ok (.lcmp, 1) := by decide +kernel
theorem dL_law_3409 : decode cL_law 3409 = .ok (.ifCond .eq 5, 3) := by decide +kernel
theorem dL_law_3412 : decode cL_law 3412 = .ok (.iconst 0, 1) := by decide +kernel
theorem dL_law_3413 : decode cL_law 3413 = .ok (.ireturn, 1) := by decide +kernel
theorem dL_law_3414 : decode cL_law 3414 = .ok (.goto 575, 3) := by decide +kernel
theorem dL_law_3417 : decode cL_law 3417 = .ok (.aload_n 1, 1) := by decide +kernel
theorem dL_law_3418 : decode cL_law 3418 = .ok (.aload_n 0, 1) := by decide +kernel
theorem dL_law_3419 : decode cL_law 3419 = .ok (.iload 5, 2) := by decide +kernel
theorem dL_law_3421 : decode cL_law 3421 = .ok (.iconst 1, 1) := by decide +kernel
theorem dL_law_3422 : decode cL_law 3422 = .ok (.iadd, 1) := by decide +kernel
theorem dL_law_3423 : decode cL_law 3423 = .ok (.iaload, 1) := by decide +kernel
theorem dL_law_3424 : decode cL_law 3424 = .ok (.aload_n 3, 1) := by decide +kernel
theorem dL_law_3425 : decode cL_law 3425 = .ok (.invokestatic 330, 3) := by decide +kernel
theorem dL_law_3428 : decode cL_law 3428 = .ok (.istore 6, 2) := by decide +kernel
theorem dL_law_3430 : decode cL_law 3430 = .ok (.aload_n 2, 1) := by decide +kernel
theorem dL_law_3431 : decode cL_law 3431 = .ok (.aload_n 0, 1) := by decide +kernel
theorem dL_law_3432 : decode cL_law 3432 = .ok (.iload 5, 2) := by decide +kernel
theorem dL_law_3434 : decode cL_law 3434 = .ok (.iconst 1, 1) := by decide +kernel
theorem dL_law_3435 : decode cL_law 3435 = .ok (.iadd, 1) := by decide +kernel
theorem dL_law_3436 : decode cL_law 3436 = .ok (.iaload, 1) := by decide +kernel
theorem dL_law_3437 : decode cL_law 3437 = .ok (.invokevirtual 332, 3) := by decide +kernel
theorem dL_law_3440 : decode cL_law 3440 = .ok (.istore 7, 2) := by decide +kernel
theorem dL_law_3442 : decode cL_law 3442 = .ok (.aload_n 2, 1) := by decide +kernel
theorem dL_law_3443 : decode cL_law 3443 = .ok (.invokevirtual 188, 3) := by decide +kernel
theorem dL_law_3446 : decode cL_law 3446 = .ok (.iload 6, 2) := by decide +kernel
theorem dL_law_3448 : decode cL_law 3448 = .ok (.if_icmp .eq 5, 3) := by decide +kernel
theorem dL_law_3451 : decode cL_law 3451 = .ok (.iconst 0, 1) := by decide +kernel
theorem dL_law_3452 : decode cL_law 3452 = .ok (.ireturn, 1) := by decide +kernel
theorem dL_law_3453 : decode cL_law 3453 = .ok (.iload 6, 2) := by decide +kernel
theorem dL_law_3455 : decode cL_law 3455 = .ok (.ifCond .ne 15, 3) := by decide +kernel
theorem dL_law_3458 : decode cL_law 3458 = .ok (.aload_n 3, 1) := by decide +kernel
theorem dL_law_3459 : decode cL_law 3459 = .ok (.iconst 0, 1) := by decide +kernel
theorem dL_law_3460 : decode cL_law 3460 = .ok (.laload, 1) := by decide +kernel
theorem dL_law_3461 : decode cL_law 3461 = .ok (.iload 7, 2) := by decide +kernel
theorem dL_law_3463 : decode cL_law 3463 = .ok (.i2l, 1) := by decide +kernel
theorem dL_law_3464 : decode cL_law 3464 = .ok (.lcmp, 1) := by decide +kernel
theorem dL_law_3465 : decode cL_law 3465 = .ok (.ifCond .eq 5, 3) := by decide +kernel
theorem dL_law_3468 : decode cL_law 3468 = .ok (.iconst 0, 1) := by decide +kernel
theorem dL_law_3469 : decode cL_law 3469 = .ok (.ireturn, 1) := by decide +kernel
theorem dL_law_3470 : decode cL_law 3470 = .ok (.goto 519, 3) := by decide +kernel
theorem dL_law_3473 : decode cL_law 3473 = .ok (.aload_n 1, 1) := by decide +kernel
theorem dL_law_3474 : decode cL_law 3474 = .ok (.aload_n 0, 1) := by decide +kernel
theorem dL_law_3475 : decode cL_law 3475 = .ok (.iload 5, 2) := by decide +kernel
theorem dL_law_3477 : decode cL_law 3477 = .ok (.iconst 1, 1) := by decide +kernel
theorem dL_law_3478 : decode cL_law 3478 = .ok (.iadd, 1) := by decide +kernel
theorem dL_law_3479 : decode cL_law 3479 = .ok (.iaload, 1) := by decide +kernel
theorem dL_law_3480 : decode cL_law 3480 = .ok (.aload_n 3, 1) := by decide +kernel
theorem dL_law_3481 : decode cL_law 3481 = .ok (.invokestatic 333, 3) := by decide +kernel
theorem dL_law_3484 : decode cL_law 3484 = .ok (.istore 6, 2) := by decide +kernel
theorem dL_law_3486 : decode cL_law 3486 = .ok (.aload_n 2, 1) := by decide +kernel
theorem dL_law_3487 : decode cL_law 3487 = .ok (.aload_n 0, 1) := by decide +kernel
theorem dL_law_3488 : decode cL_law 3488 = .ok (.iload 5, 2) := by decide +kernel
theorem dL_law_3490 : decode cL_law 3490 = .ok (.iconst 1, 1) := by decide +kernel
theorem dL_law_3491 : decode cL_law 3491 = .ok (.iadd, 1) := by decide +kernel
theorem dL_law_3492 : decode cL_law 3492 = .ok (.iaload, 1) := by decide +kernel
theorem dL_law_3493 : decode cL_law 3493 = .ok (.invokevirtual 335, 3) := by decide +kernel
theorem dL_law_3496 : decode cL_law 3496 = .ok (.istore 7, 2) := by decide +kernel
theorem dL_law_3498 : decode cL_law 3498 = .ok (.aload_n 2, 1) := by decide +kernel
theorem dL_law_3499 : decode cL_law 3499 = .ok (.invokevirtual 188, 3) := by decide +kernel
theorem dL_law_3502 : decode cL_law 3502 = .ok (.iload 6, 2) := by decide +kernel
theorem dL_law_3504 : decode cL_law 3504 = .ok (.if_icmp .eq 5, 3) := by decide +kernel
theorem dL_law_3507 : decode cL_law 3507 = .ok (.iconst 0, 1) := by decide +kernel
theorem dL_law_3508 : decode cL_law 3508 = .ok (.ireturn, 1) := by decide +kernel
theorem dL_law_3509 : decode cL_law 3509 = .ok (.iload 6, 2) := by decide +kernel
theorem dL_law_3511 : decode cL_law 3511 = .ok (.ifCond .ne 15, 3) := by decide +kernel
theorem dL_law_3514 : decode cL_law 3514 = .ok (.aload_n 3, 1) := by decide +kernel
theorem dL_law_3515 : decode cL_law 3515 = .ok (.iconst 0, 1) := by decide +kernel
theorem dL_law_3516 : decode cL_law 3516 = .ok (.laload, 1) := by decide +kernel
theorem dL_law_3517 : decode cL_law 3517 = .ok (.iload 7, 2) := by decide +kernel
theorem dL_law_3519 : decode cL_law 3519 = .ok (.i2l, 1) := by decide +kernel
theorem dL_law_3520 : decode cL_law 3520 = .ok (.lcmp, 1) := by decide +kernel
theorem dL_law_3521 : decode cL_law 3521 = .ok (.ifCond .eq 5, 3) := by decide +kernel
theorem dL_law_3524 : decode cL_law 3524 = .ok (.iconst 0, 1) := by decide +kernel
theorem dL_law_3525 : decode cL_law 3525 = .ok (.ireturn, 1) := by decide +kernel
theorem dL_law_3526 : decode cL_law 3526 = .ok (.goto 463, 3) := by decide +kernel
theorem dL_law_3529 : decode cL_law 3529 = .ok (.aload_n 1, 1) := by decide +kernel
theorem dL_law_3530 : decode cL_law 3530 = .ok (.aload_n 0, 1) := by decide +kernel
theorem dL_law_3531 : decode cL_law 3531 = .ok (.iload 5, 2) := by decide +kernel
theorem dL_law_3533 : decode cL_law 3533 = .ok (.iconst 1, 1) := by decide +kernel
theorem dL_law_3534 : decode cL_law 3534 = .ok (.iadd, 1) := by decide +kernel
theorem dL_law_3535 : decode cL_law 3535 = .ok (.iaload, 1) := by decide +kernel
theorem dL_law_3536 : decode cL_law 3536 = .ok (.aload_n 3, 1) := by decide +kernel
theorem dL_law_3537 : decode cL_law 3537 = .ok (.invokestatic 336, 3) := by decide +kernel
theorem dL_law_3540 : decode cL_law 3540 = .ok (.istore 6, 2) := by decide +kernel
theorem dL_law_3542 : decode cL_law 3542 = .ok (.aload_n 2, 1) := by decide +kernel
theorem dL_law_3543 : decode cL_law 3543 = .ok (.aload_n 0, 1) := by decide +kernel
theorem dL_law_3544 : decode cL_law 3544 = .ok (.iload 5, 2) := by decide +kernel
theorem dL_law_3546 : decode cL_law 3546 = .ok (.iconst 1, 1) := by decide +kernel
theorem dL_law_3547 : decode cL_law 3547 = .ok (.iadd, 1) := by decide +kernel
theorem dL_law_3548 : decode cL_law 3548 = .ok (.iaload, 1) := by decide +kernel
theorem dL_law_3549 : decode cL_law 3549 = .ok (.invokevirtual 338, 3) := by decide +kernel
theorem dL_law_3552 : decode cL_law 3552 = .ok (.istore 7, 2) := by decide +kernel
theorem dL_law_3554 : decode cL_law 3554 = .ok (.aload_n 2, 1) := by decide +kernel
theorem dL_law_3555 : decode cL_law 3555 = .ok (.invokevirtual 188, 3) := by decide +kernel
theorem dL_law_3558 : decode cL_law 3558 = .ok (.iload 6, 2) := by decide +kernel
theorem dL_law_3560 : decode cL_law 3560 = .ok (.if_icmp .eq 5, 3) := by decide +kernel
theorem dL_law_3563 : decode cL_law 3563 = .ok (.iconst 0, 1) := by decide +kernel
theorem dL_law_3564 : decode cL_law 3564 = .ok (.ireturn, 1) := by decide +kernel
theorem dL_law_3565 : decode cL_law 3565 = .ok (.iload 6, 2) := by decide +kernel
theorem dL_law_3567 : decode cL_law 3567 = .ok (.ifCond .ne 15, 3) := by decide +kernel
theorem dL_law_3570 : decode cL_law 3570 = .ok (.aload_n 3, 1) := by decide +kernel
theorem dL_law_3571 : decode cL_law 3571 = .ok (.iconst 0, 1) := by decide +kernel
theorem dL_law_3572 : decode cL_law 3572 = .ok (.laload, 1) := by decide +kernel
theorem dL_law_3573 : decode cL_law 3573 = .ok (.iload 7, 2) := by decide +kernel
theorem dL_law_3575 : decode cL_law 3575 = .ok (.i2l, 1) := by decide +kernel
theorem dL_law_3576 : decode cL_law 3576 = .ok (.lcmp, 1) := by decide +kernel
theorem dL_law_3577 : decode cL_law 3577 = .ok (.ifCond .eq 5, 3) := by decide +kernel
theorem dL_law_3580 : decode cL_law 3580 = .ok (.iconst 0, 1) := by decide +kernel
theorem dL_law_3581 : decode cL_law 3581 = .ok (.ireturn, 1) := by decide +kernel
theorem dL_law_3582 : decode cL_law 3582 = .ok (.goto 407, 3) := by decide +kernel
theorem dL_law_3585 : decode cL_law 3585 = .ok (.aload_n 1, 1) := by decide +kernel
theorem dL_law_3586 : decode cL_law 3586 = .ok (.aload_n 0, 1) := by decide +kernel
theorem dL_law_3587 : decode cL_law 3587 = .ok (.iload 5, 2) := by decide +kernel
theorem dL_law_3589 : decode cL_law 3589 = .ok (.iconst 1, 1) := by decide +kernel
theorem dL_law_3590 : decode cL_law 3590 = .ok (.iadd, 1) := by decide +kernel
theorem dL_law_3591 : decode cL_law 3591 = .ok (.iaload, 1) := by decide +kernel
theorem dL_law_3592 : decode cL_law 3592 = .ok (.aload_n 0, 1) := by decide +kernel
theorem dL_law_3593 : decode cL_law 3593 = .ok (.iload 5, 2) := by decide +kernel
theorem dL_law_3595 : decode cL_law 3595 = .ok (.iconst 2, 1) := by decide +kernel
theorem dL_law_3596 : decode cL_law 3596 = .ok (.iadd, 1) := by decide +kernel
theorem dL_law_3597 : decode cL_law 3597 = .ok (.iaload, 1) := by decide +kernel
theorem dL_law_3598 : decode cL_law 3598 = .ok (.aload_n 0, 1) := by decide +kernel
theorem dL_law_3599 : decode cL_law 3599 = .ok (.iload 5, 2) := by decide +kernel
theorem dL_law_3601 : decode cL_law 3601 = .ok (.iconst 3, 1) := by decide +kernel
theorem dL_law_3602 : decode cL_law 3602 = .ok (.iadd, 1) := by decide +kernel
theorem dL_law_3603 : decode cL_law 3603 = .ok (.iaload, 1) := by decide +kernel
theorem dL_law_3604 : decode cL_law 3604 = .ok (.aload_n 0, 1) := by decide +kernel
theorem dL_law_3605 : decode cL_law 3605 = .ok (.iload 5, 2) := by decide +kernel
theorem dL_law_3607 : decode cL_law 3607 = .ok (.iconst 4, 1) := by decide +kernel
theorem dL_law_3608 : decode cL_law 3608 = .ok (.iadd, 1) := by decide +kernel
theorem dL_law_3609 : decode cL_law 3609 = .ok (.iaload, 1) := by decide +kernel
theorem dL_law_3610 : decode cL_law 3610 = .ok (.aload_n 3, 1) := by decide +kernel
theorem dL_law_3611 : decode cL_law 3611 = .ok (.invokestatic 339, 3) := by decide +kernel
theorem dL_law_3614 : decode cL_law 3614 = .ok (.istore 6, 2) := by decide +kernel
theorem dL_law_3616 : decode cL_law 3616 = .ok (.aload_n 2, 1) := by decide +kernel
theorem dL_law_3617 : decode cL_law 3617 = .ok (.aload_n 0, 1) := by decide +kernel
theorem dL_law_3618 : decode cL_law 3618 = .ok (.iload 5, 2) := by decide +kernel
theorem dL_law_3620 : decode cL_law 3620 = .ok (.iconst 1, 1) := by decide +kernel
theorem dL_law_3621 : decode cL_law 3621 = .ok (.iadd, 1) := by decide +kernel
theorem dL_law_3622 : decode cL_law 3622 = .ok (.iaload, 1) := by decide +kernel
theorem dL_law_3623 : decode cL_law 3623 = .ok (.aload_n 0, 1) := by decide +kernel
theorem dL_law_3624 : decode cL_law 3624 = .ok (.iload 5, 2) := by decide +kernel
theorem dL_law_3626 : decode cL_law 3626 = .ok (.iconst 2, 1) := by decide +kernel
theorem dL_law_3627 : decode cL_law 3627 = .ok (.iadd, 1) := by decide +kernel
theorem dL_law_3628 : decode cL_law 3628 = .ok (.iaload, 1) := by decide +kernel
theorem dL_law_3629 : decode cL_law 3629 = .ok (.aload_n 0, 1) := by decide +kernel
theorem dL_law_3630 : decode cL_law 3630 = .ok (.iload 5, 2) := by decide +kernel
theorem dL_law_3632 : decode cL_law 3632 = .ok (.iconst 3, 1) := by decide +kernel
theorem dL_law_3633 : decode cL_law 3633 = .ok (.iadd, 1) := by decide +kernel
theorem dL_law_3634 : decode cL_law 3634 = .ok (.iaload, 1) := by decide +kernel
theorem dL_law_3635 : decode cL_law 3635 = .ok (.aload_n 0, 1) := by decide +kernel
theorem dL_law_3636 : decode cL_law 3636 = .ok (.iload 5, 2) := by decide +kernel
theorem dL_law_3638 : decode cL_law 3638 = .ok (.iconst 4, 1) := by decide +kernel
theorem dL_law_3639 : decode cL_law 3639 = .ok (.iadd, 1) := by decide +kernel
theorem dL_law_3640 : decode cL_law 3640 = .ok (.iaload, 1) := by decide +kernel
theorem dL_law_3641 : decode cL_law 3641 = .ok (.invokevirtual 341, 3) := by decide +kernel
theorem dL_law_3644 : decode cL_law 3644 = .ok (.istore 7, 2) := by decide +kernel
theorem dL_law_3646 : decode cL_law 3646 = .ok (.aload_n 2, 1) := by decide +kernel
theorem dL_law_3647 : decode cL_law 3647 = .ok (.invokevirtual 188, 3) := by decide +kernel
theorem dL_law_3650 : decode cL_law 3650 = .ok (.iload 6, 2) := by decide +kernel
theorem dL_law_3652 : decode cL_law 3652 = .ok (.if_icmp .eq 5, 3) := by decide +kernel
theorem dL_law_3655 : decode cL_law 3655 = .ok (.iconst 0, 1) := by decide +kernel
theorem dL_law_3656 : decode cL_law 3656 = .ok (.ireturn, 1) := by decide +kernel
theorem dL_law_3657 : decode cL_law 3657 = .ok (.iload 6, 2) := by decide +kernel
theorem dL_law_3659 : decode cL_law 3659 = .ok (.ifCond .ne 15, 3) := by decide +kernel
theorem dL_law_3662 : decode cL_law 3662 = .ok (.aload_n 3, 1) := by decide +kernel
theorem dL_law_3663 : decode cL_law 3663 = .ok (.iconst 0, 1) := by decide +kernel
theorem dL_law_3664 : decode cL_law 3664 = .ok (.laload, 1) := by decide +kernel
theorem dL_law_3665 : decode cL_law 3665 = .ok (.iload 7, 2) := by decide +kernel
theorem dL_law_3667 : decode cL_law 3667 = .ok (.i2l, 1) := by decide +kernel
theorem dL_law_3668 : decode cL_law 3668 = .ok (.lcmp, 1) := by decide +kernel
theorem dL_law_3669 : decode cL_law 3669 = .ok (.ifCond .eq 5, 3) := by decide +kernel
theorem dL_law_3672 : decode cL_law 3672 = .ok (.iconst 0, 1) := by decide +kernel
theorem dL_law_3673 : decode cL_law 3673 = .ok (.ireturn, 1) := by decide +kernel
theorem dL_law_3674 : decode cL_law 3674 = .ok (.goto 315, 3) := by decide +kernel
theorem dL_law_3677 : decode cL_law 3677 = .ok (.aload_n 1, 1) := by decide +kernel
theorem dL_law_3678 : decode cL_law 3678 = .ok (.aload_n 0, 1) := by decide +kernel
theorem dL_law_3679 : decode cL_law 3679 = .ok (.iload 5, 2) := by decide +kernel
theorem dL_law_3681 : decode cL_law 3681 = .ok (.iconst 1, 1) := by decide +kernel
theorem dL_law_3682 : decode cL_law 3682 = .ok (.iadd, 1) := by decide +kernel
theorem dL_law_3683 : decode cL_law 3683 = .ok (.iaload, 1) := by decide +kernel
theorem dL_law_3684 : decode cL_law 3684 = .ok (.aload_n 0, 1) := by decide +kernel
theorem dL_law_3685 : decode cL_law 3685 = .ok (.iload 5, 2) := by decide +kernel
theorem dL_law_3687 : decode cL_law 3687 = .ok (.iconst 2, 1) := by decide +kernel
theorem dL_law_3688 : decode cL_law 3688 = .ok (.iadd, 1) := by decide +kernel
theorem dL_law_3689 : decode cL_law 3689 = .ok (.iaload, 1) := by decide +kernel
theorem dL_law_3690 : decode cL_law 3690 = .ok (.aload_n 0, 1) := by decide +kernel
theorem dL_law_3691 : decode cL_law 3691 = .ok (.iload 5, 2) := by decide +kernel
theorem dL_law_3693 : decode cL_law 3693 = .ok (.iconst 3, 1) := by decide +kernel
theorem dL_law_3694 : decode cL_law 3694 = .ok (.iadd, 1) := by decide +kernel
theorem dL_law_3695 : decode cL_law 3695 = .ok (.iaload, 1) := by decide +kernel
theorem dL_law_3696 : decode cL_law 3696 = .ok (.aload_n 0, 1) := by decide +kernel
theorem dL_law_3697 : decode cL_law 3697 = .ok (.iload 5, 2) := by decide +kernel
theorem dL_law_3699 : decode cL_law 3699 = .ok (.iconst 4, 1) := by decide +kernel
theorem dL_law_3700 : decode cL_law 3700 = .ok (.iadd, 1) := by decide +kernel
theorem dL_law_3701 : decode cL_law 3701 = .ok (.iaload, 1) := by decide +kernel
theorem dL_law_3702 : decode cL_law 3702 = .ok (.aload_n 3, 1) := by decide +kernel
theorem dL_law_3703 : decode cL_law 3703 = .ok (.invokestatic 342, 3) := by decide +kernel
theorem dL_law_3706 : decode cL_law 3706 = .ok (.istore 6, 2) := by decide +kernel
theorem dL_law_3708 : decode cL_law 3708 = .ok (.aload_n 2, 1) := by decide +kernel
theorem dL_law_3709 : decode cL_law 3709 = .ok (.aload_n 0, 1) := by decide +kernel
theorem dL_law_3710 : decode cL_law 3710 = .ok (.iload 5, 2) := by decide +kernel
theorem dL_law_3712 : decode cL_law 3712 = .ok (.iconst 1, 1) := by decide +kernel
theorem dL_law_3713 : decode cL_law 3713 = .ok (.iadd, 1) := by decide +kernel
theorem dL_law_3714 : decode cL_law 3714 = .ok (.iaload, 1) := by decide +kernel
theorem dL_law_3715 : decode cL_law 3715 = .ok (.aload_n 0, 1) := by decide +kernel
theorem dL_law_3716 : decode cL_law 3716 = .ok (.iload 5, 2) := by decide +kernel
theorem dL_law_3718 : decode cL_law 3718 = .ok (.iconst 2, 1) := by decide +kernel
theorem dL_law_3719 : decode cL_law 3719 = .ok (.iadd, 1) := by decide +kernel
theorem dL_law_3720 : decode cL_law 3720 = .ok (.iaload, 1) := by decide +kernel
theorem dL_law_3721 : decode cL_law 3721 = .ok (.aload_n 0, 1) := by decide +kernel
theorem dL_law_3722 : decode cL_law 3722 = .ok (.iload 5, 2) := by decide +kernel
theorem dL_law_3724 : decode cL_law 3724 = .ok (.iconst 3, 1) := by decide +kernel
theorem dL_law_3725 : decode cL_law 3725 = .ok (.iadd, 1) := by decide +kernel
theorem dL_law_3726 : decode cL_law 3726 = .ok (.iaload, 1) := by decide +kernel
theorem dL_law_3727 : decode cL_law 3727 = .ok (.aload_n 0, 1) := by decide +kernel
theorem dL_law_3728 : decode cL_law 3728 = .ok (.iload 5, 2) := by decide +kernel
theorem dL_law_3730 : decode cL_law 3730 = .ok (.iconst 4, 1) := by decide +kernel
theorem dL_law_3731 : decode cL_law 3731 = .ok (.iadd, 1) := by decide +kernel
theorem dL_law_3732 : decode cL_law 3732 = .ok (.iaload, 1) := by decide +kernel
theorem dL_law_3733 : decode cL_law 3733 = .ok (.invokevirtual 344, 3) := by decide +kernel
theorem dL_law_3736 : decode cL_law 3736 = .ok (.istore 7, 2) := by decide +kernel
theorem dL_law_3738 : decode cL_law 3738 = .ok (.aload_n 2, 1) := by decide +kernel
theorem dL_law_3739 : decode cL_law 3739 = .ok (.invokevirtual 188, 3) := by decide +kernel
theorem dL_law_3742 : decode cL_law 3742 = .ok (.iload 6, 2) := by decide +kernel
theorem dL_law_3744 : decode cL_law 3744 = .ok (.if_icmp .eq 5, 3) := by decide +kernel
theorem dL_law_3747 : decode cL_law 3747 = .ok (.iconst 0, 1) := by decide +kernel
theorem dL_law_3748 : decode cL_law 3748 = .ok (.ireturn, 1) := by decide +kernel
theorem dL_law_3749 : decode cL_law 3749 = .ok (.iload 6, 2) := by decide +kernel
theorem dL_law_3751 : decode cL_law 3751 = .ok (.ifCond .ne 15, 3) := by decide +kernel
theorem dL_law_3754 : decode cL_law 3754 = .ok (.aload_n 3, 1) := by decide +kernel
theorem dL_law_3755 : decode cL_law 3755 = .ok (.iconst 0, 1) := by decide +kernel
theorem dL_law_3756 : decode cL_law 3756 = .ok (.laload, 1) := by decide +kernel
theorem dL_law_3757 : decode cL_law 3757 = .ok (.iload 7, 2) := by decide +kernel
theorem dL_law_3759 : decode cL_law 3759 = .ok (.i2l, 1) := by decide +kernel
theorem dL_law_3760 : decode cL_law 3760 = .ok (.lcmp, 1) := by decide +kernel
theorem dL_law_3761 : decode cL_law 3761 = .ok (.ifCond .eq 5, 3) := by decide +kernel
theorem dL_law_3764 : decode cL_law 3764 = .ok (.iconst 0, 1) := by decide +kernel
theorem dL_law_3765 : decode cL_law 3765 = .ok (.ireturn, 1) := by decide +kernel
theorem dL_law_3766 : decode cL_law 3766 = .ok (.goto 223, 3) := by decide +kernel
theorem dL_law_3769 : decode cL_law 3769 = .ok (.aload_n 1, 1) := by decide +kernel
theorem dL_law_3770 : decode cL_law 3770 = .ok (.aload_n 0, 1) := by decide +kernel
theorem dL_law_3771 : decode cL_law 3771 = .ok (.iload 5, 2) := by decide +kernel
theorem dL_law_3773 : decode cL_law 3773 = .ok (.iconst 1, 1) := by decide +kernel
theorem dL_law_3774 : decode cL_law 3774 = .ok (.iadd, 1) := by decide +kernel
theorem dL_law_3775 : decode cL_law 3775 = .ok (.iaload, 1) := by decide +kernel
theorem dL_law_3776 : decode cL_law 3776 = .ok (.aload 4, 2) := by decide +kernel
theorem dL_law_3778 : decode cL_law 3778 = .ok (.invokestatic 345, 3) := by decide +kernel
theorem dL_law_3781 : decode cL_law 3781 = .ok (.istore 6, 2) := by decide +kernel
theorem dL_law_3783 : decode cL_law 3783 = .ok (.aload_n 2, 1) := by decide +kernel
theorem dL_law_3784 : decode cL_law 3784 = .ok (.aload_n 0, 1) := by decide +kernel
theorem dL_law_3785 : decode cL_law 3785 = .ok (.iload 5, 2) := by decide +kernel
theorem dL_law_3787 : decode cL_law 3787 = .ok (.iconst 1, 1) := by decide +kernel
theorem dL_law_3788 : decode cL_law 3788 = .ok (.iadd, 1) := by decide +kernel
theorem dL_law_3789 : decode cL_law 3789 = .ok (.iaload, 1) := by decide +kernel
theorem dL_law_3790 : decode cL_law 3790 = .ok (.invokevirtual 348, 3) := by decide +kernel
theorem dL_law_3793 : decode cL_law 3793 = .ok (.fstore 7, 2) := by decide +kernel
theorem dL_law_3795 : decode cL_law 3795 = .ok (.aload_n 2, 1) := by decide +kernel
theorem dL_law_3796 : decode cL_law 3796 = .ok (.invokevirtual 188, 3) := by decide +kernel
theorem dL_law_3799 : decode cL_law 3799 = .ok (.iload 6, 2) := by decide +kernel
theorem dL_law_3801 : decode cL_law 3801 = .ok (.if_icmp .eq 5, 3) := by decide +kernel
theorem dL_law_3804 : decode cL_law 3804 = .ok (.iconst 0, 1) := by decide +kernel
theorem dL_law_3805 : decode cL_law 3805 = .ok (.ireturn, 1) := by decide +kernel
theorem dL_law_3806 : decode cL_law 3806 = .ok (.iload 6, 2) := by decide +kernel
theorem dL_law_3808 : decode cL_law 3808 = .ok (.ifCond .ne 36, 3) := by decide +kernel
theorem dL_law_3811 : decode cL_law 3811 = .ok (.aload 4, 2) := by decide +kernel
theorem dL_law_3813 : decode cL_law 3813 = .ok (.iconst 0, 1) := by decide +kernel
theorem dL_law_3814 : decode cL_law 3814 = .ok (.daload, 1) := by decide +kernel
theorem dL_law_3815 : decode cL_law 3815 = .ok (.fload 7, 2) := by decide +kernel
theorem dL_law_3817 : decode cL_law 3817 = .ok (.f2d, 1) := by decide +kernel
theorem dL_law_3818 : decode cL_law 3818 = .ok (.dcmp .l, 1) := by decide +kernel
theorem dL_law_3819 : decode cL_law 3819 = .ok (.ifCond .eq 25, 3) := by decide +kernel
theorem dL_law_3822 : decode cL_law 3822 = .ok (.aload 4, 2) := by decide +kernel
theorem dL_law_3824 : decode cL_law 3824 = .ok (.iconst 0, 1) := by decide +kernel
theorem dL_law_3825 : decode cL_law 3825 = .ok (.daload, 1) := by decide +kernel
theorem dL_law_3826 : decode cL_law 3826 = .ok (.aload 4, 2) := by decide +kernel
theorem dL_law_3828 : decode cL_law 3828 = .ok (.iconst 0, 1) := by decide +kernel
theorem dL_law_3829 : decode cL_law 3829 = .ok (.daload, 1) := by decide +kernel
theorem dL_law_3830 : decode cL_law 3830 = .ok (.dcmp .l, 1) := by decide +kernel
theorem dL_law_3831 : decode cL_law 3831 = .ok (.ifCond .eq 11, 3) := by decide +kernel
theorem dL_law_3834 : decode cL_law 3834 = .ok (.fload 7, 2) := by decide +kernel
theorem dL_law_3836 : decode cL_law 3836 = .ok (.fload 7, 2) := by decide +kernel
theorem dL_law_3838 : decode cL_law 3838 = .ok (.fcmp .l, 1) := by decide +kernel
theorem dL_law_3839 : decode cL_law 3839 = .ok (.ifCond .ne 5, 3) := by decide +kernel
theorem dL_law_3842 : decode cL_law 3842 = .ok (.iconst 0, 1) := by decide +kernel
theorem dL_law_3843 : decode cL_law 3843 = .ok (.ireturn, 1) := by decide +kernel
theorem dL_law_3844 : decode cL_law 3844 = .ok (.goto 145, 3) := by decide +kernel
theorem dL_law_3847 : decode cL_law 3847 = .ok (.aload_n 1, 1) := by decide +kernel
theorem dL_law_3848 : decode cL_law 3848 = .ok (.aload 4, 2) := by decide +kernel
theorem dL_law_3850 : decode cL_law 3850 = .ok (.invokestatic 349, 3) := by decide +kernel
theorem dL_law_3853 : decode cL_law 3853 = .ok (.istore 6, 2) := by decide +kernel
theorem dL_law_3855 : decode cL_law 3855 = .ok (.aload_n 2, 1) := by decide +kernel
theorem dL_law_3856 : decode cL_law 3856 = .ok (.invokevirtual 352, 3) := by decide +kernel
theorem dL_law_3859 : decode cL_law 3859 = .ok (.dstore 7, 2) := by decide +kernel
theorem dL_law_3861 : decode cL_law 3861 = .ok (.aload_n 2, 1) := by decide +kernel
theorem dL_law_3862 : decode cL_law 3862 = .ok (.invokevirtual 188, 3) := by decide +kernel
theorem dL_law_3865 : decode cL_law 3865 = .ok (.iload 6, 2) := by decide +kernel
theorem dL_law_3867 : decode cL_law 3867 = .ok (.if_icmp .eq 5, 3) := by decide +kernel
theorem dL_law_3870 : decode cL_law 3870 = .ok (.iconst 0, 1) := by decide +kernel
theorem dL_law_3871 : decode cL_law 3871 = .ok (.ireturn, 1) := by decide +kernel
theorem dL_law_3872 : decode cL_law 3872 = .ok (.iload 6, 2) := by decide +kernel
theorem dL_law_3874 : decode cL_law 3874 = .ok (.ifCond .ne 35, 3) := by decide +kernel
theorem dL_law_3877 : decode cL_law 3877 = .ok (.aload 4, 2) := by decide +kernel
theorem dL_law_3879 : decode cL_law 3879 = .ok (.iconst 0, 1) := by decide +kernel
theorem dL_law_3880 : decode cL_law 3880 = .ok (.daload, 1) := by decide +kernel
theorem dL_law_3881 : decode cL_law 3881 = .ok (.dload 7, 2) := by decide +kernel
theorem dL_law_3883 : decode cL_law 3883 = .ok (.dcmp .l, 1) := by decide +kernel
theorem dL_law_3884 : decode cL_law 3884 = .ok (.ifCond .eq 25, 3) := by decide +kernel
theorem dL_law_3887 : decode cL_law 3887 = .ok (.aload 4, 2) := by decide +kernel
theorem dL_law_3889 : decode cL_law 3889 = .ok (.iconst 0, 1) := by decide +kernel
theorem dL_law_3890 : decode cL_law 3890 = .ok (.daload, 1) := by decide +kernel
theorem dL_law_3891 : decode cL_law 3891 = .ok (.aload 4, 2) := by decide +kernel
theorem dL_law_3893 : decode cL_law 3893 = .ok (.iconst 0, 1) := by decide +kernel
theorem dL_law_3894 : decode cL_law 3894 = .ok (.daload, 1) := by decide +kernel
theorem dL_law_3895 : decode cL_law 3895 = .ok (.dcmp .l, 1) := by decide +kernel
theorem dL_law_3896 : decode cL_law 3896 = .ok (.ifCond .eq 11, 3) := by decide +kernel
theorem dL_law_3899 : decode cL_law 3899 = .ok (.dload 7, 2) := by decide +kernel
theorem dL_law_3901 : decode cL_law 3901 = .ok (.dload 7, 2) := by decide +kernel
theorem dL_law_3903 : decode cL_law 3903 = .ok (.dcmp .l, 1) := by decide +kernel
theorem dL_law_3904 : decode cL_law 3904 = .ok (.ifCond .ne 5, 3) := by decide +kernel
theorem dL_law_3907 : decode cL_law 3907 = .ok (.iconst 0, 1) := by decide +kernel
theorem dL_law_3908 : decode cL_law 3908 = .ok (.ireturn, 1) := by decide +kernel
theorem dL_law_3909 : decode cL_law 3909 = .ok (.goto 80, 3) := by decide +kernel
theorem dL_law_3912 : decode cL_law 3912 = .ok (.aload_n 1, 1) := by decide +kernel
theorem dL_law_3913 : decode cL_law 3913 = .ok (.invokevirtual 353, 3) := by decide +kernel
theorem dL_law_3916 : decode cL_law 3916 = .ok (.aload_n 2, 1) := by decide +kernel
theorem dL_law_3917 : decode cL_law 3917 = .ok (.invokevirtual 357, 3) := by decide +kernel
theorem dL_law_3920 : decode cL_law 3920 = .ok (.lcmp, 1) := by decide +kernel
theorem dL_law_3921 : decode cL_law 3921 = .ok (.ifCond .eq 68, 3) := by decide +kernel
theorem dL_law_3924 : decode cL_law 3924 = .ok (.iconst 0, 1) := by decide +kernel
theorem dL_law_3925 : decode cL_law 3925 = .ok (.ireturn, 1) := by decide +kernel
theorem dL_law_3926 : decode cL_law 3926 = .ok (.aload_n 1, 1) := by decide +kernel
theorem dL_law_3927 : decode cL_law 3927 = .ok (.aload_n 0, 1) := by decide +kernel
theorem dL_law_3928 : decode cL_law 3928 = .ok (.iload 5, 2) := by decide +kernel
theorem dL_law_3930 : decode cL_law 3930 = .ok (.iconst 1, 1) := by decide +kernel
theorem dL_law_3931 : decode cL_law 3931 = .ok (.iadd, 1) := by decide +kernel
theorem dL_law_3932 : decode cL_law 3932 = .ok (.iaload, 1) := by decide +kernel
theorem dL_law_3933 : decode cL_law 3933 = .ok (.aload_n 3, 1) := by decide +kernel
theorem dL_law_3934 : decode cL_law 3934 = .ok (.invokestatic 358, 3) := by decide +kernel
theorem dL_law_3937 : decode cL_law 3937 = .ok (.istore 6, 2) := by decide +kernel
theorem dL_law_3939 : decode cL_law 3939 = .ok (.aload_n 2, 1) := by decide +kernel
theorem dL_law_3940 : decode cL_law 3940 = .ok (.aload_n 0, 1) := by decide +kernel
theorem dL_law_3941 : decode cL_law 3941 = .ok (.iload 5, 2) := by decide +kernel
theorem dL_law_3943 : decode cL_law 3943 = .ok (.iconst 1, 1) := by decide +kernel
theorem dL_law_3944 : decode cL_law 3944 = .ok (.iadd, 1) := by decide +kernel
theorem dL_law_3945 : decode cL_law 3945 = .ok (.iaload, 1) := by decide +kernel
theorem dL_law_3946 : decode cL_law 3946 = .ok (.invokevirtual 360, 3) := by decide +kernel
theorem dL_law_3949 : decode cL_law 3949 = .ok (.istore 7, 2) := by decide +kernel
theorem dL_law_3951 : decode cL_law 3951 = .ok (.aload_n 2, 1) := by decide +kernel
theorem dL_law_3952 : decode cL_law 3952 = .ok (.invokevirtual 188, 3) := by decide +kernel
theorem dL_law_3955 : decode cL_law 3955 = .ok (.iload 6, 2) := by decide +kernel
theorem dL_law_3957 : decode cL_law 3957 = .ok (.if_icmp .eq 5, 3) := by decide +kernel
theorem dL_law_3960 : decode cL_law 3960 = .ok (.iconst 0, 1) := by decide +kernel
theorem dL_law_3961 : decode cL_law 3961 = .ok (.ireturn, 1) := by decide +kernel
theorem dL_law_3962 : decode cL_law 3962 = .ok (.iload 6, 2) := by decide +kernel
theorem dL_law_3964 : decode cL_law 3964 = .ok (.ifCond .ne 22, 3) := by decide +kernel
theorem dL_law_3967 : decode cL_law 3967 = .ok (.aload_n 3, 1) := by decide +kernel
theorem dL_law_3968 : decode cL_law 3968 = .ok (.iconst 0, 1) := by decide +kernel
theorem dL_law_3969 : decode cL_law 3969 = .ok (.laload, 1) := by decide +kernel
theorem dL_law_3970 : decode cL_law 3970 = .ok (.iload 7, 2) := by decide +kernel
theorem dL_law_3972 : decode cL_law 3972 = .ok (.ifCond .eq 7, 3) := by decide +kernel
theorem dL_law_3975 : decode cL_law 3975 = .ok (.lconst 1, 1) := by decide +kernel
theorem dL_law_3976 : decode cL_law 3976 = .ok (.goto 4, 3) := by decide +kernel
theorem dL_law_3979 : decode cL_law 3979 = .ok (.lconst 0, 1) := by decide +kernel
theorem dL_law_3980 : decode cL_law 3980 = .ok (.lcmp, 1) := by decide +kernel
theorem dL_law_3981 : decode cL_law 3981 = .ok (.ifCond .eq 5, 3) := by decide +kernel
theorem dL_law_3984 : decode cL_law 3984 = .ok (.iconst 0, 1) := by decide +kernel
theorem dL_law_3985 : decode cL_law 3985 = .ok (.ireturn, 1) := by decide +kernel
theorem dL_law_3986 : decode cL_law 3986 = .ok (.goto 3, 3) := by decide +kernel
theorem dL_law_3989 : decode cL_law 3989 = .ok (.iinc 5 6, 3) := by decide +kernel
theorem dL_law_3992 : decode cL_law 3992 = .ok (.goto (-3964), 3) := by decide +kernel
theorem dL_law_3995 : decode cL_law 3995 = .ok (.iconst 1, 1) := by decide +kernel
theorem dL_law_3996 : decode cL_law 3996 = .ok (.ireturn, 1) := by decide +kernel
