theorem dL_818 : decode code 818 = .ok (.if_icmp .eq 270, 3) := by decide +kernel
theorem dL_821 : decode code 821 = .ok (.iconst 0, 1) := by decide +kernel
theorem dL_822 : decode code 822 = .ok (.ireturn, 1) := by decide +kernel
theorem dL_823 : decode code 823 = .ok (.aload_n 1, 1) := by decide +kernel
theorem dL_824 : decode code 824 = .ok (.aload_n 0, 1) := by decide +kernel
theorem dL_825 : decode code 825 = .ok (.iload_n 3, 1) := by decide +kernel
theorem dL_826 : decode code 826 = .ok (.iconst 1, 1) := by decide +kernel
theorem dL_827 : decode code 827 = .ok (.iadd, 1) := by decide +kernel
theorem dL_828 : decode code 828 = .ok (.iaload, 1) := by decide +kernel
theorem dL_829 : decode code 829 = .ok (.aload_n 0, 1) := by decide +kernel
theorem dL_830 : decode code 830 = .ok (.iload_n 3, 1) := by decide +kernel
theorem dL_831 : decode code 831 = .ok (.iconst 2, 1) := by decide +kernel
theorem dL_832 : decode code 832 = .ok (.iadd, 1) := by decide +kernel
theorem dL_833 : decode code 833 = .ok (.iaload, 1) := by decide +kernel
theorem dL_834 : decode code 834 = .ok (.ifCond .eq 7, 3) := by decide +kernel
theorem dL_837 : decode code 837 = .ok (.iconst 1, 1) := by decide +kernel
theorem dL_838 : decode code 838 = .ok (.goto 4, 3) := by decide +kernel
theorem dL_841 : decode code 841 = .ok (.iconst 0, 1) := by decide +kernel
theorem dL_842 : decode code 842 = .ok (.invokevirtual 109, 3) := by decide +kernel
theorem dL_845 : decode code 845 = .ok (.aload_n 2, 1) := by decide +kernel
theorem dL_846 : decode code 846 = .ok (.aload_n 0, 1) := by decide +kernel
theorem dL_847 : decode code 847 = .ok (.iload_n 3, 1) := by decide +kernel
theorem dL_848 : decode code 848 = .ok (.iconst 1, 1) := by decide +kernel
theorem dL_849 : decode code 849 = .ok (.iadd, 1) := by decide +kernel
theorem dL_850 : decode code 850 = .ok (.iaload, 1) := by decide +kernel
theorem dL_851 : decode code 851 = .ok (.aload_n 0, 1) := by decide +kernel
theorem dL_852 : decode code 852 = .ok (.iload_n 3, 1) := by decide +kernel
theorem dL_853 : decode code 853 = .ok (.iconst 2, 1) := by decide +kernel
theorem dL_854 : decode code 854 = .ok (.iadd, 1) := by decide +kernel
theorem dL_855 : decode code 855 = .ok (.iaload, 1) := by decide +kernel
theorem dL_856 : decode code 856 = .ok (.ifCond .eq 7, 3) := by decide +kernel
theorem dL_859 : decode code 859 = .ok (.iconst 1, 1) := by decide +kernel
theorem dL_860 : decode code 860 = .ok (.goto 4, 3) := by decide +kernel
theorem dL_863 : decode code 863 = .ok (.iconst 0, 1) := by decide +kernel
theorem dL_864 : decode code 864 = .ok (.invokevirtual 113, 3) := by decide +kernel
theorem dL_867 : decode code 867 = .ok (.if_icmp .eq 221, 3) := by decide +kernel
theorem dL_870 : decode code 870 = .ok (.iconst 0, 1) := by decide +kernel
theorem dL_871 : decode code 871 = .ok (.ireturn, 1) := by decide +kernel
theorem dL_872 : decode code 872 = .ok (.aload_n 1, 1) := by decide +kernel
theorem dL_873 : decode code 873 = .ok (.invokevirtual 114, 3) := by decide +kernel
theorem dL_876 : decode code 876 = .ok (.aload_n 2, 1) := by decide +kernel
theorem dL_877 : decode code 877 = .ok (.invokevirtual 117, 3) := by decide +kernel
theorem dL_880 : decode code 880 = .ok (.if_icmp .eq 208, 3) := by decide +kernel
theorem dL_883 : decode code 883 = .ok (.iconst 0, 1) := by decide +kernel
theorem dL_884 : decode code 884 = .ok (.ireturn, 1) := by decide +kernel
theorem dL_885 : decode code 885 = .ok (.aload_n 1, 1) := by decide +kernel
theorem dL_886 : decode code 886 = .ok (.invokevirtual 118, 3) := by decide +kernel
theorem dL_889 : decode code 889 = .ok (.aload_n 2, 1) := by decide +kernel
theorem dL_890 : decode code 890 = .ok (.invokevirtual 121, 3) := by decide +kernel
theorem dL_893 : decode code 893 = .ok (.if_icmp .eq 195, 3) := by decide +kernel
theorem dL_896 : decode code 896 = .ok (.iconst 0, 1) := by decide +kernel
theorem dL_897 : decode code 897 = .ok (.ireturn, 1) := by decide +kernel
theorem dL_898 : decode code 898 = .ok (.aload_n 1, 1) := by decide +kernel
theorem dL_899 : decode code 899 = .ok (.aload_n 0, 1) := by decide +kernel
theorem dL_900 : decode code 900 = .ok (.iload_n 3, 1) := by decide +kernel
theorem dL_901 : decode code 901 = .ok (.iconst 1, 1) := by decide +kernel
theorem dL_902 : decode code 902 = .ok (.iadd, 1) := by decide +kernel
theorem dL_903 : decode code 903 = .ok (.iaload, 1) := by decide +kernel
theorem dL_904 : decode code 904 = .ok (.invokevirtual 122, 3) := by decide +kernel
theorem dL_907 : decode code 907 = .ok (.aload_n 2, 1) := by decide +kernel
theorem dL_908 : decode code 908 = .ok (.aload_n 0, 1) := by decide +kernel
theorem dL_909 : decode code 909 = .ok (.iload_n 3, 1) := by decide +kernel
theorem dL_910 : decode code 910 = .ok (.iconst 1, 1) := by decide +kernel
theorem dL_911 : decode code 911 = .ok (.iadd, 1) := by decide +kernel
theorem dL_912 : decode code 912 = .ok (.iaload, 1) := by decide +kernel
theorem dL_913 : decode code 913 = .ok (.invokevirtual 125, 3) := by decide +kernel
theorem dL_916 : decode code 916 = .ok (.if_icmp .eq 172, 3) := by decide +kernel
theorem dL_919 : decode code 919 = .ok (.iconst 0, 1) := by decide +kernel
theorem dL_920 : decode code 920 = .ok (.ireturn, 1) := by decide +kernel
theorem dL_921 : decode code 921 = .ok (.aload_n 1, 1) := by decide +kernel
theorem dL_922 : decode code 922 = .ok (.invokevirtual 126, 3) := by decide +kernel
theorem dL_925 : decode code 925 = .ok (.aload_n 2, 1) := by decide +kernel
theorem dL_926 : decode code 926 = .ok (.invokevirtual 129, 3) := by decide +kernel
theorem dL_929 : decode code 929 = .ok (.if_icmp .eq 159, 3) := by decide +kernel
theorem dL_932 : decode code 932 = .ok (.iconst 0, 1) := by decide +kernel
theorem dL_933 : decode code 933 = .ok (.ireturn, 1) := by decide +kernel
theorem dL_934 : decode code 934 = .ok (.aload_n 1, 1) := by decide +kernel
theorem dL_935 : decode code 935 = .ok (.aload_n 0, 1) := by decide +kernel
theorem dL_936 : decode code 936 = .ok (.iload_n 3, 1) := by decide +kernel
theorem dL_937 : decode code 937 = .ok (.iconst 1, 1) := by decide +kernel
theorem dL_938 : decode code 938 = .ok (.iadd, 1) := by decide +kernel
theorem dL_939 : decode code 939 = .ok (.iaload, 1) := by decide +kernel
theorem dL_940 : decode code 940 = .ok (.aload_n 0, 1) := by decide +kernel
theorem dL_941 : decode code 941 = .ok (.iload_n 3, 1) := by decide +kernel
theorem dL_942 : decode code 942 = .ok (.iconst 2, 1) := by decide +kernel
theorem dL_943 : decode code 943 = .ok (.iadd, 1) := by decide +kernel
theorem dL_944 : decode code 944 = .ok (.iaload, 1) := by decide +kernel
theorem dL_945 : decode code 945 = .ok (.aload_n 0, 1) := by decide +kernel
theorem dL_946 : decode code 946 = .ok (.iload_n 3, 1) := by decide +kernel
theorem dL_947 : decode code 947 = .ok (.iconst 3, 1) := by decide +kernel
theorem dL_948 : decode code 948 = .ok (.iadd, 1) := by decide +kernel
theorem dL_949 : decode code 949 = .ok (.iaload, 1) := by decide +kernel
theorem dL_950 : decode code 950 = .ok (.ifCond .eq 7, 3) := by decide +kernel
theorem dL_953 : decode code 953 = .ok (.iconst 1, 1) := by decide +kernel
theorem dL_954 : decode code 954 = .ok (.goto 4, 3) := by decide +kernel
theorem dL_957 : decode code 957 = .ok (.iconst 0, 1) := by decide +kernel
theorem dL_958 : decode code 958 = .ok (.invokevirtual 130, 3) := by decide +kernel
theorem dL_961 : decode code 961 = .ok (.aload_n 2, 1) := by decide +kernel
theorem dL_962 : decode code 962 = .ok (.aload_n 0, 1) := by decide +kernel
theorem dL_963 : decode code 963 = .ok (.iload_n 3, 1) := by decide +kernel
theorem dL_964 : decode code 964 = .ok (.iconst 1, 1) := by decide +kernel
theorem dL_965 : decode code 965 = .ok (.iadd, 1) := by decide +kernel
theorem dL_966 : decode code 966 = .ok (.iaload, 1) := by decide +kernel
theorem dL_967 : decode code 967 = .ok (.aload_n 0, 1) := by decide +kernel
theorem dL_968 : decode code 968 = .ok (.iload_n 3, 1) := by decide +kernel
theorem dL_969 : decode code 969 = .ok (.iconst 2, 1) := by decide +kernel
theorem dL_970 : decode code 970 = .ok (.iadd, 1) := by decide +kernel
theorem dL_971 : decode code 971 = .ok (.iaload, 1) := by decide +kernel
theorem dL_972 : decode code 972 = .ok (.aload_n 0, 1) := by decide +kernel
theorem dL_973 : decode code 973 = .ok (.iload_n 3, 1) := by decide +kernel
theorem dL_974 : decode code 974 = .ok (.iconst 3, 1) := by decide +kernel
theorem dL_975 : decode code 975 = .ok (.iadd, 1) := by decide +kernel
theorem dL_976 : decode code 976 = .ok (.iaload, 1) := by decide +kernel
theorem dL_977 : decode code 977 = .ok (.ifCond .eq 7, 3) := by decide +kernel
theorem dL_980 : decode code 980 = .ok (.iconst 1, 1) := by decide +kernel
theorem dL_981 : decode code 981 = .ok (.goto 4, 3) := by decide +kernel
theorem dL_984 : decode code 984 = .ok (.iconst 0, 1) := by decide +kernel
theorem dL_985 : decode code 985 = .ok (.invokevirtual 134, 3) := by decide +kernel
theorem dL_988 : decode code 988 = .ok (.if_icmp .eq 100, 3) := by decide +kernel
theorem dL_991 : decode code 991 = .ok (.iconst 0, 1) := by decide +kernel
theorem dL_992 : decode code 992 = .ok (.ireturn, 1) := by decide +kernel
theorem dL_993 : decode code 993 = .ok (.aload_n 1, 1) := by decide +kernel
theorem dL_994 : decode code 994 = .ok (.invokevirtual 135, 3) := by decide +kernel
theorem dL_997 : decode code 997 = .ok (.aload_n 2, 1) := by decide +kernel
theorem dL_998 : decode code 998 = .ok (.invokevirtual 138, 3) := by decide +kernel
theorem dL_1001 : decode code 1001 = .ok (.if_icmp .eq 87, 3) := by decide +kernel
theorem dL_1004 : decode code 1004 = .ok (.iconst 0, 1) := by decide +kernel
theorem dL_1005 : decode code 1005 = .ok (.ireturn, 1) := by decide +kernel
theorem dL_1006 : decode code 1006 = .ok (.aload_n 1, 1) := by decide +kernel
theorem dL_1007 : decode code 1007 = .ok (.invokevirtual 139, 3) := by decide +kernel
