theorem dL_law_778 : decode code 778 = .ok (.aload_n 1, 1) := by decide +kernel
theorem dL_law_779 : decode code 779 = .ok (.aload_n 0, 1) := by decide +kernel
theorem dL_law_780 : decode code 780 = .ok (.iload_n 3, 1) := by decide +kernel
theorem dL_law_781 : decode code 781 = .ok (.iconst 1, 1) := by decide +kernel
theorem dL_law_782 : decode code 782 = .ok (.iadd, 1) := by decide +kernel
theorem dL_law_783 : decode code 783 = .ok (.iaload, 1) := by decide +kernel
theorem dL_law_784 : decode code 784 = .ok (.i2l, 1) := by decide +kernel
theorem dL_law_785 : decode code 785 = .ok (.bipush 32, 2) := by decide +kernel
theorem dL_law_787 : decode code 787 = .ok (.lshl, 1) := by decide +kernel
theorem dL_law_788 : decode code 788 = .ok (.aload_n 0, 1) := by decide +kernel
theorem dL_law_789 : decode code 789 = .ok (.iload_n 3, 1) := by decide +kernel
theorem dL_law_790 : decode code 790 = .ok (.iconst 2, 1) := by decide +kernel
theorem dL_law_791 : decode code 791 = .ok (.iadd, 1) := by decide +kernel
theorem dL_law_792 : decode code 792 = .ok (.iaload, 1) := by decide +kernel
theorem dL_law_793 : decode code 793 = .ok (.i2l, 1) := by decide +kernel
theorem dL_law_794 : decode code 794 = .ok (.ldc2_w 13, 3) := by decide +kernel
theorem dL_law_797 : decode code 797 = .ok (.land, 1) := by decide +kernel
theorem dL_law_798 : decode code 798 = .ok (.lor, 1) := by decide +kernel
theorem dL_law_799 : decode code 799 = .ok (.aload_n 0, 1) := by decide +kernel
theorem dL_law_800 : decode code 800 = .ok (.iload_n 3, 1) := by decide +kernel
theorem dL_law_801 : decode code 801 = .ok (.iconst 3, 1) := by decide +kernel
theorem dL_law_802 : decode code 802 = .ok (.iadd, 1) := by decide +kernel
theorem dL_law_803 : decode code 803 = .ok (.iaload, 1) := by decide +kernel
theorem dL_law_804 : decode code 804 = .ok (.i2l, 1) := by decide +kernel
theorem dL_law_805 : decode code 805 = .ok (.bipush 32, 2) := by decide +kernel
theorem dL_law_807 : decode code 807 = .ok (.lshl, 1) := by decide +kernel
theorem dL_law_808 : decode code 808 = .ok (.aload_n 0, 1) := by decide +kernel
theorem dL_law_809 : decode code 809 = .ok (.iload_n 3, 1) := by decide +kernel
theorem dL_law_810 : decode code 810 = .ok (.iconst 4, 1) := by decide +kernel
theorem dL_law_811 : decode code 811 = .ok (.iadd, 1) := by decide +kernel
theorem dL_law_812 : decode code 812 = .ok (.iaload, 1) := by decide +kernel
theorem dL_law_813 : decode code 813 = .ok (.i2l, 1) := by decide +kernel
theorem dL_law_814 : decode code 814 = .ok (.ldc2_w 13, 3) := by decide +kernel
theorem dL_law_817 : decode code 817 = .ok (.land, 1) := by decide +kernel
theorem dL_law_818 : decode code 818 = .ok (.lor, 1) := by decide +kernel
theorem dL_law_819 : decode code 819 = .ok (.invokevirtual 43, 3) := by decide +kernel
theorem dL_law_822 : decode code 822 = .ok (.aload_n 2, 1) := by decide +kernel
theorem dL_law_823 : decode code 823 = .ok (.aload_n 0, 1) := by decide +kernel
theorem dL_law_824 : decode code 824 = .ok (.iload_n 3, 1) := by decide +kernel
theorem dL_law_825 : decode code 825 = .ok (.iconst 1, 1) := by decide +kernel
theorem dL_law_826 : decode code 826 = .ok (.iadd, 1) := by decide +kernel
theorem dL_law_827 : decode code 827 = .ok (.iaload, 1) := by decide +kernel
theorem dL_law_828 : decode code 828 = .ok (.i2l, 1) := by decide +kernel
theorem dL_law_829 : decode code 829 = .ok (.bipush 32, 2) := by decide +kernel
theorem dL_law_831 : decode code 831 = .ok (.lshl, 1) := by decide +kernel
theorem dL_law_832 : decode code 832 = .ok (.aload_n 0, 1) := by decide +kernel
theorem dL_law_833 : decode code 833 = .ok (.iload_n 3, 1) := by decide +kernel
theorem dL_law_834 : decode code 834 = .ok (.iconst 2, 1) := by decide +kernel
theorem dL_law_835 : decode code 835 = .ok (.iadd, 1) := by decide +kernel
theorem dL_law_836 : decode code 836 = .ok (.iaload, 1) := by decide +kernel
theorem dL_law_837 : decode code 837 = .ok (.i2l, 1) := by decide +kernel
theorem dL_law_838 : decode code 838 = .ok (.ldc2_w 13, 3) := by decide +kernel
theorem dL_law_841 : decode code 841 = .ok (.land, 1) := by decide +kernel
theorem dL_law_842 : decode code 842 = .ok (.lor, 1) := by decide +kernel
theorem dL_law_843 : decode code 843 = .ok (.aload_n 0, 1) := by decide +kernel
theorem dL_law_844 : decode code 844 = .ok (.iload_n 3, 1) := by decide +kernel
theorem dL_law_845 : decode code 845 = .ok (.iconst 3, 1) := by decide +kernel
theorem dL_law_846 : decode code 846 = .ok (.iadd, 1) := by decide +kernel
theorem dL_law_847 : decode code 847 = .ok (.iaload, 1) := by decide +kernel
theorem dL_law_848 : decode code 848 = .ok (.i2l, 1) := by decide +kernel
theorem dL_law_849 : decode code 849 = .ok (.bipush 32, 2) := by decide +kernel
theorem dL_law_851 : decode code 851 = .ok (.lshl, 1) := by decide +kernel
theorem dL_law_852 : decode code 852 = .ok (.aload_n 0, 1) := by decide +kernel
theorem dL_law_853 : decode code 853 = .ok (.iload_n 3, 1) := by decide +kernel
theorem dL_law_854 : decode code 854 = .ok (.iconst 4, 1) := by decide +kernel
theorem dL_law_855 : decode code 855 = .ok (.iadd, 1) := by decide +kernel
theorem dL_law_856 : decode code 856 = .ok (.iaload, 1) := by decide +kernel
theorem dL_law_857 : decode code 857 = .ok (.i2l, 1) := by decide +kernel
theorem dL_law_858 : decode code 858 = .ok (.ldc2_w 13, 3) := by decide +kernel
theorem dL_law_861 : decode code 861 = .ok (.land, 1) := by decide +kernel
theorem dL_law_862 : decode code 862 = .ok (.lor, 1) := by decide +kernel
theorem dL_law_863 : decode code 863 = .ok (.invokevirtual 47, 3) := by decide +kernel
theorem dL_law_866 : decode code 866 = .ok (.lcmp, 1) := by decide +kernel
theorem dL_law_867 : decode code 867 = .ok (.ifCond .eq 162, 3) := by decide +kernel
theorem dL_law_870 : decode code 870 = .ok (.iconst 0, 1) := by decide +kernel
theorem dL_law_871 : decode code 871 = .ok (.ireturn, 1) := by decide +kernel
theorem dL_law_872 : decode code 872 = .ok (.aload_n 1, 1) := by decide +kernel
theorem dL_law_873 : decode code 873 = .ok (.aload_n 0, 1) := by decide +kernel
theorem dL_law_874 : decode code 874 = .ok (.iload_n 3, 1) := by decide +kernel
theorem dL_law_875 : decode code 875 = .ok (.iconst 1, 1) := by decide +kernel
theorem dL_law_876 : decode code 876 = .ok (.iadd, 1) := by decide +kernel
theorem dL_law_877 : decode code 877 = .ok (.iaload, 1) := by decide +kernel
theorem dL_law_878 : decode code 878 = .ok (.i2l, 1) := by decide +kernel
theorem dL_law_879 : decode code 879 = .ok (.bipush 32, 2) := by decide +kernel
theorem dL_law_881 : decode code 881 = .ok (.lshl, 1) := by decide +kernel
theorem dL_law_882 : decode code 882 = .ok (.aload_n 0, 1) := by decide +kernel
theorem dL_law_883 : decode code 883 = .ok (.iload_n 3, 1) := by decide +kernel
theorem dL_law_884 : decode code 884 = .ok (.iconst 2, 1) := by decide +kernel
theorem dL_law_885 : decode code 885 = .ok (.iadd, 1) := by decide +kernel
theorem dL_law_886 : decode code 886 = .ok (.iaload, 1) := by decide +kernel
theorem dL_law_887 : decode code 887 = .ok (.i2l, 1) := by decide +kernel
theorem dL_law_888 : decode code 888 = .ok (.ldc2_w 13, 3) := by decide +kernel
theorem dL_law_891 : decode code 891 = .ok (.land, 1) := by decide +kernel
theorem dL_law_892 : decode code 892 = .ok (.lor, 1) := by decide +kernel
theorem dL_law_893 : decode code 893 = .ok (.aload_n 0, 1) := by decide +kernel
theorem dL_law_894 : decode code 894 = .ok (.iload_n 3, 1) := by decide +kernel
theorem dL_law_895 : decode code 895 = .ok (.iconst 3, 1) := by decide +kernel
theorem dL_law_896 : decode code 896 = .ok (.iadd, 1) := by decide +kernel
theorem dL_law_897 : decode code 897 = .ok (.iaload, 1) := by decide +kernel
theorem dL_law_898 : decode code 898 = .ok (.invokevirtual 48, 3) := by decide +kernel
theorem dL_law_901 : decode code 901 = .ok (.aload_n 2, 1) := by decide +kernel
theorem dL_law_902 : decode code 902 = .ok (.aload_n 0, 1) := by decide +kernel
theorem dL_law_903 : decode code 903 = .ok (.iload_n 3, 1) := by decide +kernel
theorem dL_law_904 : decode code 904 = .ok (.iconst 1, 1) := by decide +kernel
theorem dL_law_905 : decode code 905 = .ok (.iadd, 1) := by decide +kernel
theorem dL_law_906 : decode code 906 = .ok (.iaload, 1) := by decide +kernel
theorem dL_law_907 : decode code 907 = .ok (.i2l, 1) := by decide +kernel
theorem dL_law_908 : decode code 908 = .ok (.bipush 32, 2) := by decide +kernel
theorem dL_law_910 : decode code 910 = .ok (.lshl, 1) := by decide +kernel
theorem dL_law_911 : decode code 911 = .ok (.aload_n 0, 1) := by decide +kernel
theorem dL_law_912 : decode code 912 = .ok (.iload_n 3, 1) := by decide +kernel
theorem dL_law_913 : decode code 913 = .ok (.iconst 2, 1) := by decide +kernel
theorem dL_law_914 : decode code 914 = .ok (.iadd, 1) := by decide +kernel
theorem dL_law_915 : decode code 915 = .ok (.iaload, 1) := by decide +kernel
theorem dL_law_916 : decode code 916 = .ok (.i2l, 1) := by decide +kernel
theorem dL_law_917 : decode code 917 = .ok (.ldc2_w 13, 3) := by decide +kernel
theorem dL_law_920 : decode code 920 = .ok (.land, 1) := by decide +kernel
theorem dL_law_921 : decode code 921 = .ok (.lor, 1) := by decide +kernel
theorem dL_law_922 : decode code 922 = .ok (.aload_n 0, 1) := by decide +kernel
theorem dL_law_923 : decode code 923 = .ok (.iload_n 3, 1) := by decide +kernel
theorem dL_law_924 : decode code 924 = .ok (.iconst 3, 1) := by decide +kernel
theorem dL_law_925 : decode code 925 = .ok (.iadd, 1) := by decide +kernel
theorem dL_law_926 : decode code 926 = .ok (.iaload, 1) := by decide +kernel
theorem dL_law_927 : decode code 927 = .ok (.invokevirtual 52, 3) := by decide +kernel
theorem dL_law_930 : decode code 930 = .ok (.lcmp, 1) := by decide +kernel
theorem dL_law_931 : decode code 931 = .ok (.ifCond .eq 98, 3) := by decide +kernel
theorem dL_law_934 : decode code 934 = .ok (.iconst 0, 1) := by decide +kernel
theorem dL_law_935 : decode code 935 = .ok (.ireturn, 1) := by decide +kernel
theorem dL_law_936 : decode code 936 = .ok (.aload_n 1, 1) := by decide +kernel
theorem dL_law_937 : decode code 937 = .ok (.aload_n 0, 1) := by decide +kernel
theorem dL_law_938 : decode code 938 = .ok (.iload_n 3, 1) := by decide +kernel
theorem dL_law_939 : decode code 939 = .ok (.iconst 1, 1) := by decide +kernel
theorem dL_law_940 : decode code 940 = .ok (.iadd, 1) := by decide +kernel
theorem dL_law_941 : decode code 941 = .ok (.iaload, 1) := by decide +kernel
theorem dL_law_942 : decode code 942 = .ok (.i2l, 1) := by decide +kernel
theorem dL_law_943 : decode code 943 = .ok (.bipush 32, 2) := by decide +kernel
theorem dL_law_945 : decode code 945 = .ok (.lshl, 1) := by decide +kernel
theorem dL_law_946 : decode code 946 = .ok (.aload_n 0, 1) := by decide +kernel
theorem dL_law_947 : decode code 947 = .ok (.iload_n 3, 1) := by decide +kernel
theorem dL_law_948 : decode code 948 = .ok (.iconst 2, 1) := by decide +kernel
theorem dL_law_949 : decode code 949 = .ok (.iadd, 1) := by decide +kernel
theorem dL_law_950 : decode code 950 = .ok (.iaload, 1) := by decide +kernel
theorem dL_law_951 : decode code 951 = .ok (.i2l, 1) := by decide +kernel
theorem dL_law_952 : decode code 952 = .ok (.ldc2_w 13, 3) := by decide +kernel
theorem dL_law_955 : decode code 955 = .ok (.land, 1) := by decide +kernel
theorem dL_law_956 : decode code 956 = .ok (.lor, 1) := by decide +kernel
theorem dL_law_957 : decode code 957 = .ok (.aload_n 0, 1) := by decide +kernel
theorem dL_law_958 : decode code 958 = .ok (.iload_n 3, 1) := by decide +kernel
theorem dL_law_959 : decode code 959 = .ok (.iconst 3, 1) := by decide +kernel
theorem dL_law_960 : decode code 960 = .ok (.iadd, 1) := by decide +kernel
theorem dL_law_961 : decode code 961 = .ok (.iaload, 1) := by decide +kernel
theorem dL_law_962 : decode code 962 = .ok (.i2l, 1) := by decide +kernel
theorem dL_law_963 : decode code 963 = .ok (.bipush 32, 2) := by decide +kernel
theorem dL_law_965 : decode code 965 = .ok (.lshl, 1) := by decide +kernel
theorem dL_law_966 : decode code 966 = .ok (.aload_n 0, 1) := by decide +kernel
theorem dL_law_967 : decode code 967 = .ok (.iload_n 3, 1) := by decide +kernel
theorem dL_law_968 : decode code 968 = .ok (.iconst 4, 1) := by decide +kernel
theorem dL_law_969 : decode code 969 = .ok (.iadd, 1) := by decide +kernel
theorem dL_law_970 : decode code 970 = .ok (.iaload, 1) := by decide +kernel
theorem dL_law_971 : decode code 971 = .ok (.i2l, 1) := by decide +kernel
theorem dL_law_972 : decode code 972 = .ok (.ldc2_w 13, 3) := by decide +kernel
theorem dL_law_975 : decode code 975 = .ok (.land, 1) := by decide +kernel
theorem dL_law_976 : decode code 976 = .ok (.lor, 1) := by decide +kernel
theorem dL_law_977 : decode code 977 = .ok (.invokevirtual 53, 3) := by decide +kernel
theorem dL_law_980 : decode code 980 = .ok (.aload_n 2, 1) := by decide +kernel
theorem dL_law_981 : decode code 981 = .ok (.aload_n 0, 1) := by decide +kernel
theorem dL_law_982 : decode code 982 = .ok (.iload_n 3, 1) := by decide +kernel
theorem dL_law_983 : decode code 983 = .ok (.iconst 1, 1) := by decide +kernel
theorem dL_law_984 : decode code 984 = .ok (.iadd, 1) := by decide +kernel
theorem dL_law_985 : decode code 985 = .ok (.iaload, 1) := by decide +kernel
theorem dL_law_986 : decode code 986 = .ok (.i2l, 1) := by decide +kernel
theorem dL_law_987 : decode code 987 = .ok (.bipush 32, 2) := by decide +kernel
theorem dL_law_989 : decode code 989 = .ok (.lshl, 1) := by decide +kernel
theorem dL_law_990 : decode code 990 = .ok (.aload_n 0, 1) := by decide +kernel
theorem dL_law_991 : decode code 991 = .ok (.iload_n 3, 1) := by decide +kernel
theorem dL_law_992 : decode code 992 = .ok (.iconst 2, 1) := by decide +kernel
theorem dL_law_993 : decode code 993 = .ok (.iadd, 1) := by decide +kernel
theorem dL_law_994 : decode code 994 = .ok (.iaload, 1) := by decide +kernel
theorem dL_law_995 : decode code 995 = .ok (.i2l, 1) := by decide +kernel
theorem dL_law_996 : decode code 996 = .ok (.ldc2_w 13, 3) := by decide +kernel
theorem dL_law_999 : decode code 999 = .ok (.land, 1) := by decide +kernel
theorem dL_law_1000 : decode code 1000 = .ok (.lor, 1) := by decide +kernel
theorem dL_law_1001 : decode code 1001 = .ok (.aload_n 0, 1) := by decide +kernel
theorem dL_law_1002 : decode code 1002 = .ok (.iload_n 3, 1) := by decide +kernel
theorem dL_law_1003 : decode code 1003 = .ok (.iconst 3, 1) := by decide +kernel
theorem dL_law_1004 : decode code 1004 = .ok (.iadd, 1) := by decide +kernel
theorem dL_law_1005 : decode code 1005 = .ok (.iaload, 1) := by decide +kernel
theorem dL_law_1006 : decode code 1006 = .ok (.i2l, 1) := by decide +kernel
theorem dL_law_1007 : decode code 1007 = .ok (.bipush 32, 2) := by decide +kernel
theorem dL_law_1009 : decode code 1009 = .ok (.lshl, 1) := by decide +kernel
theorem dL_law_1010 : decode code 1010 = .ok (.aload_n 0, 1) := by decide +kernel
theorem dL_law_1011 : decode code 1011 = .ok (.iload_n 3, 1) := by decide +kernel
theorem dL_law_1012 : decode code 1012 = .ok (.iconst 4, 1) := by decide +kernel
theorem dL_law_1013 : decode code 1013 = .ok (.iadd, 1) := by decide +kernel
theorem dL_law_1014 : decode code 1014 = .ok (.iaload, 1) := by decide +kernel
theorem dL_law_1015 : decode code 1015 = .ok (.i2l, 1) := by decide +kernel
theorem dL_law_1016 : decode code 1016 = .ok (.ldc2_w 13, 3) := by decide +kernel
theorem dL_law_1019 : decode code 1019 = .ok (.land, 1) := by decide +kernel
theorem dL_law_1020 : decode code 1020 = .ok (.lor, 1) := by decide +kernel
theorem dL_law_1021 : decode code 1021 = .ok (.invokevirtual 57, 3) := by decide +kernel
theorem dL_law_1024 : decode code 1024 = .ok (.if_icmp .eq 5, 3) := by decide +kernel
theorem dL_law_1027 : decode code 1027 = .ok (.iconst 0, 1) := by decide +kernel
theorem dL_law_1028 : decode code 1028 = .ok (.ireturn, 1) := by decide +kernel
theorem dL_law_1029 : decode code 1029 = .ok (.iinc 3 8, 3) := by decide +kernel
theorem dL_law_1032 : decode code 1032 = .ok (.goto (-1014), 3) := by decide +kernel
theorem dL_law_1035 : decode code 1035 = .ok (.iconst 1, 1) := by decide +kernel
theorem dL_law_1036 : decode code 1036 = .ok (.ireturn, 1) := by decide +kernel
