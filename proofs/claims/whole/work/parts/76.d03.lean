theorem d_law_773 : decode code 773 = .ok (.if_icmp .eq 283, 3) := by decide +kernel
theorem d_law_776 : decode code 776 = .ok (.iconst 0, 1) := by decide +kernel
theorem d_law_777 : decode code 777 = .ok (.ireturn, 1) := by decide +kernel
theorem d_law_778 : decode code 778 = .ok (.aload_n 1, 1) := by decide +kernel
theorem d_law_779 : decode code 779 = .ok (.aload_n 0, 1) := by decide +kernel
theorem d_law_780 : decode code 780 = .ok (.iload 4, 2) := by decide +kernel
theorem d_law_782 : decode code 782 = .ok (.iconst 1, 1) := by decide +kernel
theorem d_law_783 : decode code 783 = .ok (.iadd, 1) := by decide +kernel
theorem d_law_784 : decode code 784 = .ok (.iaload, 1) := by decide +kernel
theorem d_law_785 : decode code 785 = .ok (.aload_n 0, 1) := by decide +kernel
theorem d_law_786 : decode code 786 = .ok (.iload 4, 2) := by decide +kernel
theorem d_law_788 : decode code 788 = .ok (.iconst 2, 1) := by decide +kernel
theorem d_law_789 : decode code 789 = .ok (.iadd, 1) := by decide +kernel
theorem d_law_790 : decode code 790 = .ok (.iaload, 1) := by decide +kernel
theorem d_law_791 : decode code 791 = .ok (.invokevirtual 117, 3) := by decide +kernel
theorem d_law_794 : decode code 794 = .ok (.aload_n 2, 1) := by decide +kernel
theorem d_law_795 : decode code 795 = .ok (.aload_n 0, 1) := by decide +kernel
theorem d_law_796 : decode code 796 = .ok (.iload 4, 2) := by decide +kernel
theorem d_law_798 : decode code 798 = .ok (.iconst 1, 1) := by decide +kernel
theorem d_law_799 : decode code 799 = .ok (.iadd, 1) := by decide +kernel
theorem d_law_800 : decode code 800 = .ok (.iaload, 1) := by decide +kernel
theorem d_law_801 : decode code 801 = .ok (.aload_n 0, 1) := by decide +kernel
theorem d_law_802 : decode code 802 = .ok (.iload 4, 2) := by decide +kernel
theorem d_law_804 : decode code 804 = .ok (.iconst 2, 1) := by decide +kernel
theorem d_law_805 : decode code 805 = .ok (.iadd, 1) := by decide +kernel
theorem d_law_806 : decode code 806 = .ok (.iaload, 1) := by decide +kernel
theorem d_law_807 : decode code 807 = .ok (.invokevirtual 121, 3) := by decide +kernel
theorem d_law_810 : decode code 810 = .ok (.if_icmp .eq 246, 3) := by decide +kernel
theorem d_law_813 : decode code 813 = .ok (.iconst 0, 1) := by decide +kernel
theorem d_law_814 : decode code 814 = .ok (.ireturn, 1) := by decide +kernel
theorem d_law_815 : decode code 815 = .ok (.aload_n 1, 1) := by decide +kernel
theorem d_law_816 : decode code 816 = .ok (.aload_n 0, 1) := by decide +kernel
theorem d_law_817 : decode code 817 = .ok (.iload 4, 2) := by decide +kernel
theorem d_law_819 : decode code 819 = .ok (.iconst 1, 1) := by decide +kernel
theorem d_law_820 : decode code 820 = .ok (.iadd, 1) := by decide +kernel
theorem d_law_821 : decode code 821 = .ok (.iaload, 1) := by decide +kernel
theorem d_law_822 : decode code 822 = .ok (.aload_n 0, 1) := by decide +kernel
theorem d_law_823 : decode code 823 = .ok (.iload 4, 2) := by decide +kernel
theorem d_law_825 : decode code 825 = .ok (.iconst 2, 1) := by decide +kernel
theorem d_law_826 : decode code 826 = .ok (.iadd, 1) := by decide +kernel
theorem d_law_827 : decode code 827 = .ok (.iaload, 1) := by decide +kernel
theorem d_law_828 : decode code 828 = .ok (.invokevirtual 122, 3) := by decide +kernel
theorem d_law_831 : decode code 831 = .ok (.aload_n 2, 1) := by decide +kernel
theorem d_law_832 : decode code 832 = .ok (.aload_n 0, 1) := by decide +kernel
theorem d_law_833 : decode code 833 = .ok (.iload 4, 2) := by decide +kernel
theorem d_law_835 : decode code 835 = .ok (.iconst 1, 1) := by decide +kernel
theorem d_law_836 : decode code 836 = .ok (.iadd, 1) := by decide +kernel
theorem d_law_837 : decode code 837 = .ok (.iaload, 1) := by decide +kernel
theorem d_law_838 : decode code 838 = .ok (.aload_n 0, 1) := by decide +kernel
theorem d_law_839 : decode code 839 = .ok (.iload 4, 2) := by decide +kernel
theorem d_law_841 : decode code 841 = .ok (.iconst 2, 1) := by decide +kernel
theorem d_law_842 : decode code 842 = .ok (.iadd, 1) := by decide +kernel
theorem d_law_843 : decode code 843 = .ok (.iaload, 1) := by decide +kernel
theorem d_law_844 : decode code 844 = .ok (.invokevirtual 125, 3) := by decide +kernel
theorem d_law_847 : decode code 847 = .ok (.if_icmp .eq 209, 3) := by decide +kernel
theorem d_law_850 : decode code 850 = .ok (.iconst 0, 1) := by decide +kernel
theorem d_law_851 : decode code 851 = .ok (.ireturn, 1) := by decide +kernel
theorem d_law_852 : decode code 852 = .ok (.aload_n 1, 1) := by decide +kernel
theorem d_law_853 : decode code 853 = .ok (.aload_n 0, 1) := by decide +kernel
theorem d_law_854 : decode code 854 = .ok (.iload 4, 2) := by decide +kernel
theorem d_law_856 : decode code 856 = .ok (.iconst 1, 1) := by decide +kernel
theorem d_law_857 : decode code 857 = .ok (.iadd, 1) := by decide +kernel
theorem d_law_858 : decode code 858 = .ok (.iaload, 1) := by decide +kernel
theorem d_law_859 : decode code 859 = .ok (.aload_n 0, 1) := by decide +kernel
theorem d_law_860 : decode code 860 = .ok (.iload 4, 2) := by decide +kernel
theorem d_law_862 : decode code 862 = .ok (.iconst 2, 1) := by decide +kernel
theorem d_law_863 : decode code 863 = .ok (.iadd, 1) := by decide +kernel
theorem d_law_864 : decode code 864 = .ok (.iaload, 1) := by decide +kernel
theorem d_law_865 : decode code 865 = .ok (.aload_n 0, 1) := by decide +kernel
theorem d_law_866 : decode code 866 = .ok (.iload 4, 2) := by decide +kernel
theorem d_law_868 : decode code 868 = .ok (.iconst 3, 1) := by decide +kernel
theorem d_law_869 : decode code 869 = .ok (.iadd, 1) := by decide +kernel
theorem d_law_870 : decode code 870 = .ok (.iaload, 1) := by decide +kernel
theorem d_law_871 : decode code 871 = .ok (.aload_n 0, 1) := by decide +kernel
theorem d_law_872 : decode code 872 = .ok (.iload 4, 2) := by decide +kernel
theorem d_law_874 : decode code 874 = .ok (.iconst 4, 1) := by decide +kernel
theorem d_law_875 : decode code 875 = .ok (.iadd, 1) := by decide +kernel
theorem d_law_876 : decode code 876 = .ok (.iaload, 1) := by decide +kernel
theorem d_law_877 : decode code 877 = .ok (.aload_n 3, 1) := by decide +kernel
theorem d_law_878 : decode code 878 = .ok (.invokestatic 126, 3) := by decide +kernel
theorem d_law_881 : decode code 881 = .ok (.istore 5, 2) := by decide +kernel
theorem d_law_883 : decode code 883 = .ok (.aload_n 2, 1) := by decide +kernel
theorem d_law_884 : decode code 884 = .ok (.aload_n 0, 1) := by decide +kernel
theorem d_law_885 : decode code 885 = .ok (.iload 4, 2) := by decide +kernel
theorem d_law_887 : decode code 887 = .ok (.iconst 1, 1) := by decide +kernel
theorem d_law_888 : decode code 888 = .ok (.iadd, 1) := by decide +kernel
theorem d_law_889 : decode code 889 = .ok (.iaload, 1) := by decide +kernel
theorem d_law_890 : decode code 890 = .ok (.aload_n 0, 1) := by decide +kernel
theorem d_law_891 : decode code 891 = .ok (.iload 4, 2) := by decide +kernel
theorem d_law_893 : decode code 893 = .ok (.iconst 2, 1) := by decide +kernel
theorem d_law_894 : decode code 894 = .ok (.iadd, 1) := by decide +kernel
theorem d_law_895 : decode code 895 = .ok (.iaload, 1) := by decide +kernel
theorem d_law_896 : decode code 896 = .ok (.aload_n 0, 1) := by decide +kernel
theorem d_law_897 : decode code 897 = .ok (.iload 4, 2) := by decide +kernel
theorem d_law_899 : decode code 899 = .ok (.iconst 3, 1) := by decide +kernel
theorem d_law_900 : decode code 900 = .ok (.iadd, 1) := by decide +kernel
theorem d_law_901 : decode code 901 = .ok (.iaload, 1) := by decide +kernel
theorem d_law_902 : decode code 902 = .ok (.aload_n 0, 1) := by decide +kernel
theorem d_law_903 : decode code 903 = .ok (.iload 4, 2) := by decide +kernel
theorem d_law_905 : decode code 905 = .ok (.iconst 4, 1) := by decide +kernel
theorem d_law_906 : decode code 906 = .ok (.iadd, 1) := by decide +kernel
theorem d_law_907 : decode code 907 = .ok (.iaload, 1) := by decide +kernel
theorem d_law_908 : decode code 908 = .ok (.invokevirtual 129, 3) := by decide +kernel
theorem d_law_911 : decode code 911 = .ok (.istore 6, 2) := by decide +kernel
theorem d_law_913 : decode code 913 = .ok (.aload_n 2, 1) := by decide +kernel
theorem d_law_914 : decode code 914 = .ok (.invokevirtual 66, 3) := by decide +kernel
theorem d_law_917 : decode code 917 = .ok (.iload 5, 2) := by decide +kernel
theorem d_law_919 : decode code 919 = .ok (.if_icmp .eq 5, 3) := by decide +kernel
theorem d_law_922 : decode code 922 = .ok (.iconst 0, 1) := by decide +kernel
theorem d_law_923 : decode code 923 = .ok (.ireturn, 1) := by decide +kernel
theorem d_law_924 : decode code 924 = .ok (.iload 5, 2) := by decide +kernel
theorem d_law_926 : decode code 926 = .ok (.ifCond .ne 15, 3) := by decide +kernel
theorem d_law_929 : decode code 929 = .ok (.aload_n 3, 1) := by decide +kernel
theorem d_law_930 : decode code 930 = .ok (.iconst 0, 1) := by decide +kernel
theorem d_law_931 : decode code 931 = .ok (.laload, 1) := by decide +kernel
theorem d_law_932 : decode code 932 = .ok (.iload 6, 2) := by decide +kernel
theorem d_law_934 : decode code 934 = .ok (.i2l, 1) := by decide +kernel
theorem d_law_935 : decode code 935 = .ok (.lcmp, 1) := by decide +kernel
theorem d_law_936 : decode code 936 = .ok (.ifCond .eq 5, 3) := by decide +kernel
theorem d_law_939 : decode code 939 = .ok (.iconst 0, 1) := by decide +kernel
theorem d_law_940 : decode code 940 = .ok (.ireturn, 1) := by decide +kernel
theorem d_law_941 : decode code 941 = .ok (.goto 115, 3) := by decide +kernel
theorem d_law_944 : decode code 944 = .ok (.aload_n 1, 1) := by decide +kernel
theorem d_law_945 : decode code 945 = .ok (.invokevirtual 130, 3) := by decide +kernel
theorem d_law_948 : decode code 948 = .ok (.aload_n 2, 1) := by decide +kernel
theorem d_law_949 : decode code 949 = .ok (.invokevirtual 133, 3) := by decide +kernel
theorem d_law_952 : decode code 952 = .ok (.if_icmp .eq 104, 3) := by decide +kernel
theorem d_law_955 : decode code 955 = .ok (.iconst 0, 1) := by decide +kernel
theorem d_law_956 : decode code 956 = .ok (.ireturn, 1) := by decide +kernel
theorem d_law_957 : decode code 957 = .ok (.aload_n 1, 1) := by decide +kernel
theorem d_law_958 : decode code 958 = .ok (.aload_n 0, 1) := by decide +kernel
theorem d_law_959 : decode code 959 = .ok (.iload 4, 2) := by decide +kernel
theorem d_law_961 : decode code 961 = .ok (.iconst 1, 1) := by decide +kernel
theorem d_law_962 : decode code 962 = .ok (.iadd, 1) := by decide +kernel
theorem d_law_963 : decode code 963 = .ok (.iaload, 1) := by decide +kernel
theorem d_law_964 : decode code 964 = .ok (.aload_n 0, 1) := by decide +kernel
theorem d_law_965 : decode code 965 = .ok (.iload 4, 2) := by decide +kernel
theorem d_law_967 : decode code 967 = .ok (.iconst 2, 1) := by decide +kernel
theorem d_law_968 : decode code 968 = .ok (.iadd, 1) := by decide +kernel
theorem d_law_969 : decode code 969 = .ok (.iaload, 1) := by decide +kernel
theorem d_law_970 : decode code 970 = .ok (.aload_n 0, 1) := by decide +kernel
theorem d_law_971 : decode code 971 = .ok (.iload 4, 2) := by decide +kernel
theorem d_law_973 : decode code 973 = .ok (.iconst 3, 1) := by decide +kernel
theorem d_law_974 : decode code 974 = .ok (.iadd, 1) := by decide +kernel
theorem d_law_975 : decode code 975 = .ok (.iaload, 1) := by decide +kernel
theorem d_law_976 : decode code 976 = .ok (.aload_n 0, 1) := by decide +kernel
theorem d_law_977 : decode code 977 = .ok (.iload 4, 2) := by decide +kernel
theorem d_law_979 : decode code 979 = .ok (.iconst 4, 1) := by decide +kernel
theorem d_law_980 : decode code 980 = .ok (.iadd, 1) := by decide +kernel
theorem d_law_981 : decode code 981 = .ok (.iaload, 1) := by decide +kernel
theorem d_law_982 : decode code 982 = .ok (.aload_n 3, 1) := by decide +kernel
theorem d_law_983 : decode code 983 = .ok (.invokestatic 134, 3) := by decide +kernel
theorem d_law_986 : decode code 986 = .ok (.istore 5, 2) := by decide +kernel
theorem d_law_988 : decode code 988 = .ok (.aload_n 2, 1) := by decide +kernel
theorem d_law_989 : decode code 989 = .ok (.aload_n 0, 1) := by decide +kernel
theorem d_law_990 : decode code 990 = .ok (.iload 4, 2) := by decide +kernel
theorem d_law_992 : decode code 992 = .ok (.iconst 1, 1) := by decide +kernel
theorem d_law_993 : decode code 993 = .ok (.iadd, 1) := by decide +kernel
theorem d_law_994 : decode code 994 = .ok (.iaload, 1) := by decide +kernel
theorem d_law_995 : decode code 995 = .ok (.aload_n 0, 1) := by decide +kernel
theorem d_law_996 : decode code 996 = .ok (.iload 4, 2) := by decide +kernel
theorem d_law_998 : decode code 998 = .ok (.iconst 2, 1) := by decide +kernel
theorem d_law_999 : decode code 999 = .ok (.iadd, 1) := by decide +kernel
theorem d_law_1000 : decode code 1000 = .ok (.iaload, 1) := by decide +kernel
theorem d_law_1001 : decode code 1001 = .ok (.aload_n 0, 1) := by decide +kernel
theorem d_law_1002 : decode code 1002 = .ok (.iload 4, 2) := by decide +kernel
theorem d_law_1004 : decode code 1004 = .ok (.iconst 3, 1) := by decide +kernel
theorem d_law_1005 : decode code 1005 = .ok (.iadd, 1) := by decide +kernel
theorem d_law_1006 : decode code 1006 = .ok (.iaload, 1) := by decide +kernel
theorem d_law_1007 : decode code 1007 = .ok (.aload_n 0, 1) := by decide +kernel
theorem d_law_1008 : decode code 1008 = .ok (.iload 4, 2) := by decide +kernel
theorem d_law_1010 : decode code 1010 = .ok (.iconst 4, 1) := by decide +kernel
theorem d_law_1011 : decode code 1011 = .ok (.iadd, 1) := by decide +kernel
theorem d_law_1012 : decode code 1012 = .ok (.iaload, 1) := by decide +kernel
theorem d_law_1013 : decode code 1013 = .ok (.invokevirtual 136, 3) := by decide +kernel
theorem d_law_1016 : decode code 1016 = .ok (.istore 6, 2) := by decide +kernel
theorem d_law_1018 : decode code 1018 = .ok (.aload_n 2, 1) := by decide +kernel
theorem d_law_1019 : decode code 1019 = .ok (.invokevirtual 66, 3) := by decide +kernel
theorem d_law_1022 : decode code 1022 = .ok (.iload 5, 2) := by decide +kernel
theorem d_law_1024 : decode code 1024 = .ok (.if_icmp .eq 5, 3) := by decide +kernel
theorem d_law_1027 : decode code 1027 = .ok (.iconst 0, 1) := by decide +kernel
theorem d_law_1028 : decode code 1028 = .ok (.ireturn, 1) := by decide +kernel
theorem d_law_1029 : decode code 1029 = .ok (.iload 5, 2) := by decide +kernel
theorem d_law_1031 : decode code 1031 = .ok (.ifCond .ne 22, 3) := by decide +kernel
theorem d_law_1034 : decode code 1034 = .ok (.aload_n 3, 1) := by decide +kernel
theorem d_law_1035 : decode code 1035 = .ok (.iconst 0, 1) := by decide +kernel
theorem d_law_1036 : decode code 1036 = .ok (.laload, 1) := by decide +kernel
theorem d_law_1037 : decode code 1037 = .ok (.iload 6, 2) := by decide +kernel
theorem d_law_1039 : decode code 1039 = .ok (.ifCond .eq 7, 3) := by decide +kernel
theorem d_law_1042 : decode code 1042 = .ok (.lconst 1, 1) := by decide +kernel
theorem d_law_1043 : decode code 1043 = .ok (.goto 4, 3) := by decide +kernel
theorem d_law_1046 : decode code 1046 = .ok (.lconst 0, 1) := by decide +kernel
theorem d_law_1047 : decode code 1047 = .ok (.lcmp, 1) := by decide +kernel
theorem d_law_1048 : decode code 1048 = .ok (.ifCond .eq 5, 3) := by decide +kernel
theorem d_law_1051 : decode code 1051 = .ok (.iconst 0, 1) := by decide +kernel
theorem d_law_1052 : decode code 1052 = .ok (.ireturn, 1) := by decide +kernel
theorem d_law_1053 : decode code 1053 = .ok (.goto 3, 3) := by decide +kernel
theorem d_law_1056 : decode code 1056 = .ok (.iinc 4 5, 3) := by decide +kernel
theorem d_law_1059 : decode code 1059 = .ok (.goto (-1036), 3) := by decide +kernel
theorem d_law_1062 : decode code 1062 = .ok (.iconst 1, 1) := by decide +kernel
theorem d_law_1063 : decode code 1063 = .ok (.ireturn, 1) := by decide +kernel
