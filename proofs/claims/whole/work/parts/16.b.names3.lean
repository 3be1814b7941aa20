theorem d_Law_law_759 : decode code 759 = .ok (.aload_n 0, 1) := by decide +kernel
theorem d_Law_law_760 : decode code 760 = .ok (.iload 4, 2) := by decide +kernel
theorem d_Law_law_762 : decode code 762 = .ok (.iconst 4, 1) := by decide +kernel
theorem d_Law_law_763 : decode code 763 = .ok (.iadd, 1) := by decide +kernel
theorem d_Law_law_764 : decode code 764 = .ok (.iaload, 1) := by decide +kernel
theorem d_Law_law_765 : decode code 765 = .ok (.aload_n 0, 1) := by decide +kernel
theorem d_Law_law_766 : decode code 766 = .ok (.iload 4, 2) := by decide +kernel
theorem d_Law_law_768 : decode code 768 = .ok (.iconst 5, 1) := by decide +kernel
theorem d_Law_law_769 : decode code 769 = .ok (.iadd, 1) := by decide +kernel
theorem d_Law_law_770 : decode code 770 = .ok (.iaload, 1) := by decide +kernel
theorem d_Law_law_771 : decode code 771 = .ok (.aload_n 3, 1) := by decide +kernel
theorem d_Law_law_772 : decode code 772 = .ok (.invokestatic 107, 3) := by decide +kernel
theorem d_Law_law_775 : decode code 775 = .ok (.istore 5, 2) := by decide +kernel
theorem d_Law_law_777 : decode code 777 = .ok (.aload_n 2, 1) := by decide +kernel
theorem d_Law_law_778 : decode code 778 = .ok (.aload_n 0, 1) := by decide +kernel
theorem d_Law_law_779 : decode code 779 = .ok (.iload 4, 2) := by decide +kernel
theorem d_Law_law_781 : decode code 781 = .ok (.iconst 1, 1) := by decide +kernel
theorem d_Law_law_782 : decode code 782 = .ok (.iadd, 1) := by decide +kernel
theorem d_Law_law_783 : decode code 783 = .ok (.iaload, 1) := by decide +kernel
theorem d_Law_law_784 : decode code 784 = .ok (.aload_n 0, 1) := by decide +kernel
theorem d_Law_law_785 : decode code 785 = .ok (.iload 4, 2) := by decide +kernel
theorem d_Law_law_787 : decode code 787 = .ok (.iconst 2, 1) := by decide +kernel
theorem d_Law_law_788 : decode code 788 = .ok (.iadd, 1) := by decide +kernel
theorem d_Law_law_789 : decode code 789 = .ok (.iaload, 1) := by decide +kernel
theorem d_Law_law_790 : decode code 790 = .ok (.aload_n 0, 1) := by decide +kernel
theorem d_Law_law_791 : decode code 791 = .ok (.iload 4, 2) := by decide +kernel
theorem d_Law_law_793 : decode code 793 = .ok (.iconst 3, 1) := by decide +kernel
theorem d_Law_law_794 : decode code 794 = .ok (.iadd, 1) := by decide +kernel
theorem d_Law_law_795 : decode code 795 = .ok (.iaload, 1) := by decide +kernel
theorem d_Law_law_796 : decode code 796 = .ok (.aload_n 0, 1) := by decide +kernel
theorem d_Law_law_797 : decode code 797 = .ok (.iload 4, 2) := by decide +kernel
theorem d_Law_law_799 : decode code 799 = .ok (.iconst 4, 1) := by decide +kernel
theorem d_Law_law_800 : decode code 800 = .ok (.iadd, 1) := by decide +kernel
theorem d_Law_law_801 : decode code 801 = .ok (.iaload, 1) := by decide +kernel
theorem d_Law_law_802 : decode code 802 = .ok (.aload_n 0, 1) := by decide +kernel
theorem d_Law_law_803 : decode code 803 = .ok (.iload 4, 2) := by decide +kernel
theorem d_Law_law_805 : decode code 805 = .ok (.iconst 5, 1) := by decide +kernel
theorem d_Law_law_806 : decode code 806 = .ok (.iadd, 1) := by decide +kernel
theorem d_Law_law_807 : decode code 807 = .ok (.iaload, 1) := by decide +kernel
theorem d_Law_law_808 : decode code 808 = .ok (.invokevirtual 110, 3) := by decide +kernel
theorem d_Law_law_811 : decode code 811 = .ok (.lstore 6, 2) := by decide +kernel
theorem d_Law_law_813 : decode code 813 = .ok (.aload_n 2, 1) := by decide +kernel
theorem d_Law_law_814 : decode code 814 = .ok (.invokevirtual 70, 3) := by decide +kernel
theorem d_Law_law_817 : decode code 817 = .ok (.iload 5, 2) := by decide +kernel
theorem d_Law_law_819 : decode code 819 = .ok (.if_icmp .eq 5, 3) := by decide +kernel
theorem d_Law_law_822 : decode code 822 = .ok (.iconst 0, 1) := by decide +kernel
theorem d_Law_law_823 : decode code 823 = .ok (.ireturn, 1) := by decide +kernel
theorem d_Law_law_824 : decode code 824 = .ok (.iload 5, 2) := by decide +kernel
theorem d_Law_law_826 : decode code 826 = .ok (.ifCond .ne 14, 3) := by decide +kernel
theorem d_Law_law_829 : decode code 829 = .ok (.aload_n 3, 1) := by decide +kernel
theorem d_Law_law_830 : decode code 830 = .ok (.iconst 0, 1) := by decide +kernel
theorem d_Law_law_831 : decode code 831 = .ok (.laload, 1) := by decide +kernel
theorem d_Law_law_832 : decode code 832 = .ok (.lload 6, 2) := by decide +kernel
theorem d_Law_law_834 : decode code 834 = .ok (.lcmp, 1) := by decide +kernel
theorem d_Law_law_835 : decode code 835 = .ok (.ifCond .eq 5, 3) := by decide +kernel
theorem d_Law_law_838 : decode code 838 = .ok (.iconst 0, 1) := by decide +kernel
theorem d_Law_law_839 : decode code 839 = .ok (.ireturn, 1) := by decide +kernel
theorem d_Law_law_840 : decode code 840 = .ok (.goto 206, 3) := by decide +kernel
theorem d_Law_law_843 : decode code 843 = .ok (.aload_n 1, 1) := by decide +kernel
theorem d_Law_law_844 : decode code 844 = .ok (.aload_n 0, 1) := by decide +kernel
theorem d_Law_law_845 : decode code 845 = .ok (.iload 4, 2) := by decide +kernel
theorem d_Law_law_847 : decode code 847 = .ok (.iconst 1, 1) := by decide +kernel
theorem d_Law_law_848 : decode code 848 = .ok (.iadd, 1) := by decide +kernel
theorem d_Law_law_849 : decode code 849 = .ok (.iaload, 1) := by decide +kernel
theorem d_Law_law_850 : decode code 850 = .ok (.aload_n 0, 1) := by decide +kernel
theorem d_Law_law_851 : decode code 851 = .ok (.iload 4, 2) := by decide +kernel
theorem d_Law_law_853 : decode code 853 = .ok (.iconst 2, 1) := by decide +kernel
theorem d_Law_law_854 : decode code 854 = .ok (.iadd, 1) := by decide +kernel
theorem d_Law_law_855 : decode code 855 = .ok (.iaload, 1) := by decide +kernel
theorem d_Law_law_856 : decode code 856 = .ok (.ifCond .eq 7, 3) := by decide +kernel
theorem d_Law_law_859 : decode code 859 = .ok (.iconst 1, 1) := by decide +kernel
theorem d_Law_law_860 : decode code 860 = .ok (.goto 4, 3) := by decide +kernel
theorem d_Law_law_863 : decode code 863 = .ok (.iconst 0, 1) := by decide +kernel
theorem d_Law_law_864 : decode code 864 = .ok (.aload_n 3, 1) := by decide +kernel
theorem d_Law_law_865 : decode code 865 = .ok (.invokestatic 111, 3) := by decide +kernel
theorem d_Law_law_868 : decode code 868 = .ok (.istore 5, 2) := by decide +kernel
theorem d_Law_law_870 : decode code 870 = .ok (.aload_n 2, 1) := by decide +kernel
theorem d_Law_law_871 : decode code 871 = .ok (.aload_n 0, 1) := by decide +kernel
theorem d_Law_law_872 : decode code 872 = .ok (.iload 4, 2) := by decide +kernel
theorem d_Law_law_874 : decode code 874 = .ok (.iconst 1, 1) := by decide +kernel
theorem d_Law_law_875 : decode code 875 = .ok (.iadd, 1) := by decide +kernel
theorem d_Law_law_876 : decode code 876 = .ok (.iaload, 1) := by decide +kernel
theorem d_Law_law_877 : decode code 877 = .ok (.aload_n 0, 1) := by decide +kernel
theorem d_Law_law_878 : decode code 878 = .ok (.iload 4, 2) := by decide +kernel
theorem d_Law_law_880 : decode code 880 = .ok (.iconst 2, 1) := by decide +kernel
theorem d_Law_law_881 : decode code 881 = .ok (.iadd, 1) := by decide +kernel
theorem d_Law_law_882 : decode code 882 = .ok (.iaload, 1) := by decide +kernel
theorem d_Law_law_883 : decode code 883 = .ok (.ifCond .eq 7, 3) := by decide +kernel
theorem d_Law_law_886 : decode code 886 = .ok (.iconst 1, 1) := by decide +kernel
theorem d_Law_law_887 : decode code 887 = .ok (.goto 4, 3) := by decide +kernel
theorem d_Law_law_890 : decode code 890 = .ok (.iconst 0, 1) := by decide +kernel
theorem d_Law_law_891 : decode code 891 = .ok (.invokevirtual 114, 3) := by decide +kernel
theorem d_Law_law_894 : decode code 894 = .ok (.istore 6, 2) := by decide +kernel
theorem d_Law_law_896 : decode code 896 = .ok (.aload_n 2, 1) := by decide +kernel
theorem d_Law_law_897 : decode code 897 = .ok (.invokevirtual 70, 3) := by decide +kernel
theorem d_Law_law_900 : decode code 900 = .ok (.iload 5, 2) := by decide +kernel
theorem d_Law_law_902 : decode code 902 = .ok (.if_icmp .eq 5, 3) := by decide +kernel
theorem d_Law_law_905 : decode code 905 = .ok (.iconst 0, 1) := by decide +kernel
theorem d_Law_law_906 : decode code 906 = .ok (.ireturn, 1) := by decide +kernel
theorem d_Law_law_907 : decode code 907 = .ok (.iload 5, 2) := by decide +kernel
theorem d_Law_law_909 : decode code 909 = .ok (.ifCond .ne 22, 3) := by decide +kernel
theorem d_Law_law_912 : decode code 912 = .ok (.aload_n 3, 1) := by decide +kernel
theorem d_Law_law_913 : decode code 913 = .ok (.iconst 0, 1) := by decide +kernel
theorem d_Law_law_914 : decode code 914 = .ok (.laload, 1) := by decide +kernel
theorem d_Law_law_915 : decode code 915 = .ok (.iload 6, 2) := by decide +kernel
theorem d_Law_law_917 : decode code 917 = .ok (.ifCond .eq 7, 3) := by decide +kernel
theorem d_Law_law_920 : decode code 920 = .ok (.lconst 1, 1) := by decide +kernel
theorem d_Law_law_921 : decode code 921 = .ok (.goto 4, 3) := by decide +kernel
theorem d_Law_law_924 : decode code 924 = .ok (.lconst 0, 1) := by decide +kernel
theorem d_Law_law_925 : decode code 925 = .ok (.lcmp, 1) := by decide +kernel
theorem d_Law_law_926 : decode code 926 = .ok (.ifCond .eq 5, 3) := by decide +kernel
theorem d_Law_law_929 : decode code 929 = .ok (.iconst 0, 1) := by decide +kernel
theorem d_Law_law_930 : decode code 930 = .ok (.ireturn, 1) := by decide +kernel
theorem d_Law_law_931 : decode code 931 = .ok (.goto 115, 3) := by decide +kernel
theorem d_Law_law_934 : decode code 934 = .ok (.aload_n 1, 1) := by decide +kernel
theorem d_Law_law_935 : decode code 935 = .ok (.aload_n 0, 1) := by decide +kernel
theorem d_Law_law_936 : decode code 936 = .ok (.iload 4, 2) := by decide +kernel
theorem d_Law_law_938 : decode code 938 = .ok (.iconst 1, 1) := by decide +kernel
theorem d_Law_law_939 : decode code 939 = .ok (.iadd, 1) := by decide +kernel
theorem d_Law_law_940 : decode code 940 = .ok (.iaload, 1) := by decide +kernel
theorem d_Law_law_941 : decode code 941 = .ok (.aload_n 0, 1) := by decide +kernel
theorem d_Law_law_942 : decode code 942 = .ok (.iload 4, 2) := by decide +kernel
theorem d_Law_law_944 : decode code 944 = .ok (.iconst 2, 1) := by decide +kernel
theorem d_Law_law_945 : decode code 945 = .ok (.iadd, 1) := by decide +kernel
theorem d_Law_law_946 : decode code 946 = .ok (.iaload, 1) := by decide +kernel
theorem d_Law_law_947 : decode code 947 = .ok (.aload_n 3, 1) := by decide +kernel
theorem d_Law_law_948 : decode code 948 = .ok (.invokestatic 115, 3) := by decide +kernel
theorem d_Law_law_951 : decode code 951 = .ok (.istore 5, 2) := by decide +kernel
theorem d_Law_law_953 : decode code 953 = .ok (.aload_n 2, 1) := by decide +kernel
theorem d_Law_law_954 : decode code 954 = .ok (.aload_n 0, 1) := by decide +kernel
theorem d_Law_law_955 : decode code 955 = .ok (.iload 4, 2) := by decide +kernel
theorem d_Law_law_957 : decode code 957 = .ok (.iconst 1, 1) := by decide +kernel
theorem d_Law_law_958 : decode code 958 = .ok (.iadd, 1) := by decide +kernel
theorem d_Law_law_959 : decode code 959 = .ok (.iaload, 1) := by decide +kernel
theorem d_Law_law_960 : decode code 960 = .ok (.aload_n 0, 1) := by decide +kernel
theorem d_Law_law_961 : decode code 961 = .ok (.iload 4, 2) := by decide +kernel
theorem d_Law_law_963 : decode code 963 = .ok (.iconst 2, 1) := by decide +kernel
theorem d_Law_law_964 : decode code 964 = .ok (.iadd, 1) := by decide +kernel
theorem d_Law_law_965 : decode code 965 = .ok (.iaload, 1) := by decide +kernel
theorem d_Law_law_966 : decode code 966 = .ok (.invokevirtual 117, 3) := by decide +kernel
theorem d_Law_law_969 : decode code 969 = .ok (.istore 6, 2) := by decide +kernel
theorem d_Law_law_971 : decode code 971 = .ok (.aload_n 2, 1) := by decide +kernel
theorem d_Law_law_972 : decode code 972 = .ok (.invokevirtual 70, 3) := by decide +kernel
theorem d_Law_law_975 : decode code 975 = .ok (.iload 5, 2) := by decide +kernel
theorem d_Law_law_977 : decode code 977 = .ok (.if_icmp .eq 5, 3) := by decide +kernel
theorem d_Law_law_980 : decode code 980 = .ok (.iconst 0, 1) := by decide +kernel
theorem d_Law_law_981 : decode code 981 = .ok (.ireturn, 1) := by decide +kernel
theorem d_Law_law_982 : decode code 982 = .ok (.iload 5, 2) := by decide +kernel
theorem d_Law_law_984 : decode code 984 = .ok (.ifCond .ne 15, 3) := by decide +kernel
theorem d_Law_law_987 : decode code 987 = .ok (.aload_n 3, 1) := by decide +kernel
