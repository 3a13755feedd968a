theorem fit_0_1 : q_fit 0 1 = true := by decide +kernel
theorem fit_0_209 : q_fit 0 209 = true := by decide +kernel
theorem fit_1_2 : q_fit 1 2 = true := by decide +kernel
theorem fit_1_3 : q_fit 1 3 = true := by decide +kernel
theorem fit_100_101 : q_fit 100 101 = true := by decide +kernel
theorem fit_100_102 : q_fit 100 102 = true := by decide +kernel
theorem fit_100_103 : q_fit 100 103 = true := by decide +kernel
theorem fit_100_105 : q_fit 100 105 = true := by decide +kernel
theorem fit_103_104 : q_fit 103 104 = true := by decide +kernel
theorem fit_104_610 : q_fit 104 610 = true := by decide +kernel
theorem fit_105_106 : q_fit 105 106 = true := by decide +kernel
theorem fit_106_107 : q_fit 106 107 = true := by decide +kernel
theorem fit_106_610 : q_fit 106 610 = true := by decide +kernel
theorem fit_106_848 : q_fit 106 848 = true := by decide +kernel
theorem fit_107_610 : q_fit 107 610 = true := by decide +kernel
theorem fit_107_848 : q_fit 107 848 = true := by decide +kernel
theorem fit_2_3 : q_fit 2 3 = true := by decide +kernel
theorem fit_201_200 : q_fit 201 200 = true := by decide +kernel
theorem fit_201_603 : q_fit 201 603 = true := by decide +kernel
theorem fit_201_611 : q_fit 201 611 = true := by decide +kernel
theorem fit_202_603 : q_fit 202 603 = true := by decide +kernel
theorem fit_203_201 : q_fit 203 201 = true := by decide +kernel
theorem fit_203_202 : q_fit 203 202 = true := by decide +kernel
theorem fit_204_1201 : q_fit 204 1201 = true := by decide +kernel
theorem fit_204_203 : q_fit 204 203 = true := by decide +kernel
theorem fit_204_205 : q_fit 204 205 = true := by decide +kernel
theorem fit_205_603 : q_fit 205 603 = true := by decide +kernel
theorem fit_206_205 : q_fit 206 205 = true := by decide +kernel
theorem fit_207_612 : q_fit 207 612 = true := by decide +kernel
theorem fit_208_204 : q_fit 208 204 = true := by decide +kernel
theorem fit_208_207 : q_fit 208 207 = true := by decide +kernel
theorem fit_208_613 : q_fit 208 613 = true := by decide +kernel
theorem fit_209_203 : q_fit 209 203 = true := by decide +kernel
theorem fit_209_207 : q_fit 209 207 = true := by decide +kernel
theorem fit_209_613 : q_fit 209 613 = true := by decide +kernel
theorem fit_210_201 : q_fit 210 201 = true := by decide +kernel
theorem fit_210_613 : q_fit 210 613 = true := by decide +kernel
theorem fit_211_201 : q_fit 211 201 = true := by decide +kernel
theorem fit_211_613 : q_fit 211 613 = true := by decide +kernel
theorem fit_212_1201 : q_fit 212 1201 = true := by decide +kernel
theorem fit_212_612 : q_fit 212 612 = true := by decide +kernel
theorem fit_212_613 : q_fit 212 613 = true := by decide +kernel
theorem fit_213_200 : q_fit 213 200 = true := by decide +kernel
theorem fit_213_202 : q_fit 213 202 = true := by decide +kernel
theorem fit_213_203 : q_fit 213 203 = true := by decide +kernel
theorem fit_213_207 : q_fit 213 207 = true := by decide +kernel
theorem fit_213_603 : q_fit 213 603 = true := by decide +kernel
theorem fit_213_613 : q_fit 213 613 = true := by decide +kernel
theorem fit_3_848 : q_fit 3 848 = true := by decide +kernel
theorem fit_500_501 : q_fit 500 501 = true := by decide +kernel
theorem fit_500_512 : q_fit 500 512 = true := by decide +kernel
theorem fit_500_516 : q_fit 500 516 = true := by decide +kernel
theorem fit_500_519 : q_fit 500 519 = true := by decide +kernel
theorem fit_500_600 : q_fit 500 600 = true := by decide +kernel
theorem fit_501_502 : q_fit 501 502 = true := by decide +kernel
theorem fit_501_503 : q_fit 501 503 = true := by decide +kernel
theorem fit_501_504 : q_fit 501 504 = true := by decide +kernel
theorem fit_501_505 : q_fit 501 505 = true := by decide +kernel
theorem fit_501_506 : q_fit 501 506 = true := by decide +kernel
theorem fit_501_507 : q_fit 501 507 = true := by decide +kernel
theorem fit_501_508 : q_fit 501 508 = true := by decide +kernel
theorem fit_501_515 : q_fit 501 515 = true := by decide +kernel
theorem fit_501_517 : q_fit 501 517 = true := by decide +kernel
theorem fit_501_518 : q_fit 501 518 = true := by decide +kernel
theorem fit_502_511 : q_fit 502 511 = true := by decide +kernel
theorem fit_502_513 : q_fit 502 513 = true := by decide +kernel
theorem fit_503_511 : q_fit 503 511 = true := by decide +kernel
theorem fit_503_513 : q_fit 503 513 = true := by decide +kernel
theorem fit_504_511 : q_fit 504 511 = true := by decide +kernel
theorem fit_504_514 : q_fit 504 514 = true := by decide +kernel
theorem fit_504_604 : q_fit 504 604 = true := by decide +kernel
theorem fit_505_511 : q_fit 505 511 = true := by decide +kernel
theorem fit_505_514 : q_fit 505 514 = true := by decide +kernel
theorem fit_505_515 : q_fit 505 515 = true := by decide +kernel
theorem fit_505_605 : q_fit 505 605 = true := by decide +kernel
theorem fit_505_609 : q_fit 505 609 = true := by decide +kernel
theorem fit_505_848 : q_fit 505 848 = true := by decide +kernel
theorem fit_506_511 : q_fit 506 511 = true := by decide +kernel
theorem fit_506_514 : q_fit 506 514 = true := by decide +kernel
theorem fit_506_606 : q_fit 506 606 = true := by decide +kernel
theorem fit_507_509 : q_fit 507 509 = true := by decide +kernel
theorem fit_507_511 : q_fit 507 511 = true := by decide +kernel
theorem fit_507_515 : q_fit 507 515 = true := by decide +kernel
theorem fit_507_848 : q_fit 507 848 = true := by decide +kernel
theorem fit_508_511 : q_fit 508 511 = true := by decide +kernel
theorem fit_508_513 : q_fit 508 513 = true := by decide +kernel
theorem fit_509_510 : q_fit 509 510 = true := by decide +kernel
theorem fit_509_515 : q_fit 509 515 = true := by decide +kernel
theorem fit_509_516 : q_fit 509 516 = true := by decide +kernel
theorem fit_509_517 : q_fit 509 517 = true := by decide +kernel
theorem fit_509_519 : q_fit 509 519 = true := by decide +kernel
theorem fit_509_607 : q_fit 509 607 = true := by decide +kernel
theorem fit_510_519 : q_fit 510 519 = true := by decide +kernel
theorem fit_511_515 : q_fit 511 515 = true := by decide +kernel
theorem fit_511_516 : q_fit 511 516 = true := by decide +kernel
theorem fit_511_519 : q_fit 511 519 = true := by decide +kernel
theorem fit_511_521 : q_fit 511 521 = true := by decide +kernel
theorem fit_512_515 : q_fit 512 515 = true := by decide +kernel
theorem fit_512_516 : q_fit 512 516 = true := by decide +kernel
theorem fit_512_519 : q_fit 512 519 = true := by decide +kernel
theorem fit_513_515 : q_fit 513 515 = true := by decide +kernel
theorem fit_514_515 : q_fit 514 515 = true := by decide +kernel
theorem fit_516_519 : q_fit 516 519 = true := by decide +kernel
theorem fit_517_519 : q_fit 517 519 = true := by decide +kernel
theorem fit_517_520 : q_fit 517 520 = true := by decide +kernel
theorem fit_518_1000 : q_fit 518 1000 = true := by decide +kernel
theorem fit_518_1001 : q_fit 518 1001 = true := by decide +kernel
theorem fit_518_519 : q_fit 518 519 = true := by decide +kernel
theorem fit_605_602 : q_fit 605 602 = true := by decide +kernel
theorem fit_607_603 : q_fit 607 603 = true := by decide +kernel
theorem fit_608_603 : q_fit 608 603 = true := by decide +kernel
theorem fit_609_602 : q_fit 609 602 = true := by decide +kernel
theorem fit_610_602 : q_fit 610 602 = true := by decide +kernel
theorem fit_611_1200 : q_fit 611 1200 = true := by decide +kernel
theorem fit_700_208 : q_fit 700 208 = true := by decide +kernel
theorem fit_700_602 : q_fit 700 602 = true := by decide +kernel
theorem fit_700_603 : q_fit 700 603 = true := by decide +kernel
theorem fit_700_701 : q_fit 700 701 = true := by decide +kernel
theorem fit_701_702 : q_fit 701 702 = true := by decide +kernel
theorem fit_701_848 : q_fit 701 848 = true := by decide +kernel
theorem fit_702_609 : q_fit 702 609 = true := by decide +kernel
theorem fit_702_848 : q_fit 702 848 = true := by decide +kernel
theorem fit_703_704 : q_fit 703 704 = true := by decide +kernel
theorem fit_704_610 : q_fit 704 610 = true := by decide +kernel
theorem fit_704_848 : q_fit 704 848 = true := by decide +kernel
theorem fit_801_300 : q_fit 801 300 = true := by decide +kernel
theorem fit_801_400 : q_fit 801 400 = true := by decide +kernel
theorem fit_801_500 : q_fit 801 500 = true := by decide +kernel
theorem fit_801_601 : q_fit 801 601 = true := by decide +kernel
theorem fit_803_804 : q_fit 803 804 = true := by decide +kernel
theorem fit_803_805 : q_fit 803 805 = true := by decide +kernel
theorem fit_805_207 : q_fit 805 207 = true := by decide +kernel
theorem fit_806_602 : q_fit 806 602 = true := by decide +kernel
theorem fit_806_807 : q_fit 806 807 = true := by decide +kernel
theorem fit_808_204 : q_fit 808 204 = true := by decide +kernel
theorem fit_808_206 : q_fit 808 206 = true := by decide +kernel
theorem fit_808_208 : q_fit 808 208 = true := by decide +kernel
theorem fit_808_603 : q_fit 808 603 = true := by decide +kernel
theorem fit_809_204 : q_fit 809 204 = true := by decide +kernel
theorem fit_809_603 : q_fit 809 603 = true := by decide +kernel
theorem fit_811_602 : q_fit 811 602 = true := by decide +kernel
theorem fit_811_609 : q_fit 811 609 = true := by decide +kernel
theorem fit_811_848 : q_fit 811 848 = true := by decide +kernel
theorem fit_812_813 : q_fit 812 813 = true := by decide +kernel
theorem fit_812_848 : q_fit 812 848 = true := by decide +kernel
theorem fit_813_1202 : q_fit 813 1202 = true := by decide +kernel
theorem fit_813_208 : q_fit 813 208 = true := by decide +kernel
theorem fit_814_205 : q_fit 814 205 = true := by decide +kernel
theorem fit_814_603 : q_fit 814 603 = true := by decide +kernel
theorem fit_815_603 : q_fit 815 603 = true := by decide +kernel
theorem fit_816_602 : q_fit 816 602 = true := by decide +kernel
theorem fit_816_603 : q_fit 816 603 = true := by decide +kernel
theorem fit_817_603 : q_fit 817 603 = true := by decide +kernel
theorem fit_817_818 : q_fit 817 818 = true := by decide +kernel
theorem fit_817_820 : q_fit 817 820 = true := by decide +kernel
theorem fit_818_1100 : q_fit 818 1100 = true := by decide +kernel
theorem fit_818_302 : q_fit 818 302 = true := by decide +kernel
theorem fit_818_609 : q_fit 818 609 = true := by decide +kernel
theorem fit_818_819 : q_fit 818 819 = true := by decide +kernel
theorem fit_819_848 : q_fit 819 848 = true := by decide +kernel
theorem fit_820_302 : q_fit 820 302 = true := by decide +kernel
theorem fit_820_603 : q_fit 820 603 = true := by decide +kernel
theorem fit_821_603 : q_fit 821 603 = true := by decide +kernel
theorem fit_821_700 : q_fit 821 700 = true := by decide +kernel
theorem fit_821_703 : q_fit 821 703 = true := by decide +kernel
theorem fit_822_100 : q_fit 822 100 = true := by decide +kernel
theorem fit_823_100 : q_fit 823 100 = true := by decide +kernel
theorem fit_824_603 : q_fit 824 603 = true := by decide +kernel
theorem fit_824_825 : q_fit 824 825 = true := by decide +kernel
theorem fit_825_210 : q_fit 825 210 = true := by decide +kernel
theorem fit_825_211 : q_fit 825 211 = true := by decide +kernel
theorem fit_826_211 : q_fit 826 211 = true := by decide +kernel
theorem fit_826_603 : q_fit 826 603 = true := by decide +kernel
theorem fit_826_849 : q_fit 826 849 = true := by decide +kernel
theorem fit_827_209 : q_fit 827 209 = true := by decide +kernel
theorem fit_827_829 : q_fit 827 829 = true := by decide +kernel
theorem fit_828_203 : q_fit 828 203 = true := by decide +kernel
theorem fit_828_212 : q_fit 828 212 = true := by decide +kernel
theorem fit_828_829 : q_fit 828 829 = true := by decide +kernel
theorem fit_828_849 : q_fit 828 849 = true := by decide +kernel
theorem fit_829_603 : q_fit 829 603 = true := by decide +kernel
theorem fit_830_0 : q_fit 830 0 = true := by decide +kernel
theorem fit_830_3 : q_fit 830 3 = true := by decide +kernel
theorem fit_830_603 : q_fit 830 603 = true := by decide +kernel
theorem fit_831_213 : q_fit 831 213 = true := by decide +kernel
theorem fit_831_603 : q_fit 831 603 = true := by decide +kernel
theorem fit_831_849 : q_fit 831 849 = true := by decide +kernel
theorem fit_832_849 : q_fit 832 849 = true := by decide +kernel
theorem fit_833_834 : q_fit 833 834 = true := by decide +kernel
theorem fit_834_835 : q_fit 834 835 = true := by decide +kernel
theorem fit_835_210 : q_fit 835 210 = true := by decide +kernel
theorem fit_836_1100 : q_fit 836 1100 = true := by decide +kernel
theorem fit_836_1201 : q_fit 836 1201 = true := by decide +kernel
theorem fit_836_834 : q_fit 836 834 = true := by decide +kernel
theorem fit_836_837 : q_fit 836 837 = true := by decide +kernel
theorem fit_837_210 : q_fit 837 210 = true := by decide +kernel
theorem fit_837_848 : q_fit 837 848 = true := by decide +kernel
theorem fit_839_840 : q_fit 839 840 = true := by decide +kernel
theorem fit_840_841 : q_fit 840 841 = true := by decide +kernel
theorem fit_841_608 : q_fit 841 608 = true := by decide +kernel
theorem fit_842_603 : q_fit 842 603 = true := by decide +kernel
theorem fit_843_400 : q_fit 843 400 = true := by decide +kernel
theorem fit_844_203 : q_fit 844 203 = true := by decide +kernel
theorem fit_844_613 : q_fit 844 613 = true := by decide +kernel
theorem fit_846_301 : q_fit 846 301 = true := by decide +kernel
theorem fit_847_301 : q_fit 847 301 = true := by decide +kernel
theorem fit_847_848 : q_fit 847 848 = true := by decide +kernel
theorem fit_904_900 : q_fit 904 900 = true := by decide +kernel
theorem fit_907_900 : q_fit 907 900 = true := by decide +kernel
theorem fit_907_905 : q_fit 907 905 = true := by decide +kernel
theorem fit_909_900 : q_fit 909 900 = true := by decide +kernel
theorem fit_909_905 : q_fit 909 905 = true := by decide +kernel
theorem fit_909_906 : q_fit 909 906 = true := by decide +kernel
theorem fit_910_902 : q_fit 910 902 = true := by decide +kernel
theorem fit_910_906 : q_fit 910 906 = true := by decide +kernel
theorem fit_910_909 : q_fit 910 909 = true := by decide +kernel
theorem fit_911_902 : q_fit 911 902 = true := by decide +kernel
theorem fit_911_906 : q_fit 911 906 = true := by decide +kernel
theorem fit_911_909 : q_fit 911 909 = true := by decide +kernel
theorem fit_912_902 : q_fit 912 902 = true := by decide +kernel
theorem fit_912_906 : q_fit 912 906 = true := by decide +kernel
theorem fit_912_909 : q_fit 912 909 = true := by decide +kernel
theorem fit_913_906 : q_fit 913 906 = true := by decide +kernel
theorem fit_913_909 : q_fit 913 909 = true := by decide +kernel
theorem fit_914_902 : q_fit 914 902 = true := by decide +kernel
theorem fit_914_906 : q_fit 914 906 = true := by decide +kernel
theorem fit_914_909 : q_fit 914 909 = true := by decide +kernel
theorem fit_915_906 : q_fit 915 906 = true := by decide +kernel
theorem fit_915_909 : q_fit 915 909 = true := by decide +kernel
theorem fit_916_900 : q_fit 916 900 = true := by decide +kernel
theorem fit_917_902 : q_fit 917 902 = true := by decide +kernel
theorem fit_917_906 : q_fit 917 906 = true := by decide +kernel
theorem fit_917_907 : q_fit 917 907 = true := by decide +kernel
theorem fit_917_909 : q_fit 917 909 = true := by decide +kernel
theorem fit_917_916 : q_fit 917 916 = true := by decide +kernel
theorem fit_918_906 : q_fit 918 906 = true := by decide +kernel
theorem fit_918_907 : q_fit 918 907 = true := by decide +kernel
theorem fit_918_908 : q_fit 918 908 = true := by decide +kernel
theorem fit_918_910 : q_fit 918 910 = true := by decide +kernel
theorem fit_918_911 : q_fit 918 911 = true := by decide +kernel
theorem fit_918_912 : q_fit 918 912 = true := by decide +kernel
theorem fit_918_913 : q_fit 918 913 = true := by decide +kernel
theorem fit_918_914 : q_fit 918 914 = true := by decide +kernel
theorem fit_918_915 : q_fit 918 915 = true := by decide +kernel
theorem fit_918_917 : q_fit 918 917 = true := by decide +kernel
theorem fit_919_905 : q_fit 919 905 = true := by decide +kernel
theorem fit_919_906 : q_fit 919 906 = true := by decide +kernel
theorem fit_919_918 : q_fit 919 918 = true := by decide +kernel
theorem fit_921_900 : q_fit 921 900 = true := by decide +kernel
theorem fit_922_900 : q_fit 922 900 = true := by decide +kernel
theorem fit_924_900 : q_fit 924 900 = true := by decide +kernel
theorem fit_925_923 : q_fit 925 923 = true := by decide +kernel
theorem fit_925_924 : q_fit 925 924 = true := by decide +kernel
theorem fit_927_900 : q_fit 927 900 = true := by decide +kernel
theorem fit_928_926 : q_fit 928 926 = true := by decide +kernel
theorem fit_929_928 : q_fit 929 928 = true := by decide +kernel
theorem fit_930_901 : q_fit 930 901 = true := by decide +kernel
theorem fit_931_921 : q_fit 931 921 = true := by decide +kernel
theorem fit_931_930 : q_fit 931 930 = true := by decide +kernel
theorem fit_933_901 : q_fit 933 901 = true := by decide +kernel
theorem fit_933_922 : q_fit 933 922 = true := by decide +kernel
theorem fit_933_925 : q_fit 933 925 = true := by decide +kernel
theorem fit_933_927 : q_fit 933 927 = true := by decide +kernel
theorem fit_933_928 : q_fit 933 928 = true := by decide +kernel
theorem fit_933_932 : q_fit 933 932 = true := by decide +kernel
theorem fit_934_900 : q_fit 934 900 = true := by decide +kernel
theorem fit_934_922 : q_fit 934 922 = true := by decide +kernel
theorem fit_934_925 : q_fit 934 925 = true := by decide +kernel
theorem fit_935_900 : q_fit 935 900 = true := by decide +kernel
theorem fit_936_902 : q_fit 936 902 = true := by decide +kernel
theorem fit_936_921 : q_fit 936 921 = true := by decide +kernel
theorem fit_937_901 : q_fit 937 901 = true := by decide +kernel
theorem fit_937_902 : q_fit 937 902 = true := by decide +kernel
theorem fit_937_925 : q_fit 937 925 = true := by decide +kernel
theorem fit_937_927 : q_fit 937 927 = true := by decide +kernel
theorem fit_937_928 : q_fit 937 928 = true := by decide +kernel
theorem fit_938_901 : q_fit 938 901 = true := by decide +kernel
theorem fit_938_922 : q_fit 938 922 = true := by decide +kernel
theorem fit_938_924 : q_fit 938 924 = true := by decide +kernel
theorem fit_939_900 : q_fit 939 900 = true := by decide +kernel
theorem fit_939_922 : q_fit 939 922 = true := by decide +kernel
theorem fit_940_921 : q_fit 940 921 = true := by decide +kernel
theorem fit_940_922 : q_fit 940 922 = true := by decide +kernel
theorem fit_942_902 : q_fit 942 902 = true := by decide +kernel
theorem fit_942_903 : q_fit 942 903 = true := by decide +kernel
theorem fit_942_941 : q_fit 942 941 = true := by decide +kernel
theorem fit_943_900 : q_fit 943 900 = true := by decide +kernel
theorem fit_943_941 : q_fit 943 941 = true := by decide +kernel
theorem fit_943_942 : q_fit 943 942 = true := by decide +kernel
theorem fit_944_902 : q_fit 944 902 = true := by decide +kernel
theorem fit_945_925 : q_fit 945 925 = true := by decide +kernel
theorem fit_945_927 : q_fit 945 927 = true := by decide +kernel
theorem fit_945_928 : q_fit 945 928 = true := by decide +kernel
theorem fit_945_944 : q_fit 945 944 = true := by decide +kernel
theorem fit_946_902 : q_fit 946 902 = true := by decide +kernel
theorem fit_946_922 : q_fit 946 922 = true := by decide +kernel
theorem fit_946_945 : q_fit 946 945 = true := by decide +kernel
theorem fit_947_902 : q_fit 947 902 = true := by decide +kernel
theorem fit_949_947 : q_fit 949 947 = true := by decide +kernel
theorem fit_949_948 : q_fit 949 948 = true := by decide +kernel
theorem fit_950_947 : q_fit 950 947 = true := by decide +kernel
theorem fit_950_949 : q_fit 950 949 = true := by decide +kernel
theorem fit_951_948 : q_fit 951 948 = true := by decide +kernel
theorem fit_951_950 : q_fit 951 950 = true := by decide +kernel
theorem fit_952_948 : q_fit 952 948 = true := by decide +kernel
theorem fit_952_951 : q_fit 952 951 = true := by decide +kernel
theorem fit_953_900 : q_fit 953 900 = true := by decide +kernel
theorem fit_953_952 : q_fit 953 952 = true := by decide +kernel
theorem fit_954_952 : q_fit 954 952 = true := by decide +kernel
theorem fit_955_900 : q_fit 955 900 = true := by decide +kernel
theorem fit_955_922 : q_fit 955 922 = true := by decide +kernel
theorem fit_955_923 : q_fit 955 923 = true := by decide +kernel
theorem fit_955_927 : q_fit 955 927 = true := by decide +kernel
theorem fit_956_923 : q_fit 956 923 = true := by decide +kernel
theorem fit_956_927 : q_fit 956 927 = true := by decide +kernel
theorem fit_956_955 : q_fit 956 955 = true := by decide +kernel
theorem fit_957_900 : q_fit 957 900 = true := by decide +kernel
theorem fit_957_922 : q_fit 957 922 = true := by decide +kernel
theorem fit_957_956 : q_fit 957 956 = true := by decide +kernel
theorem fit_958_923 : q_fit 958 923 = true := by decide +kernel
theorem fit_958_927 : q_fit 958 927 = true := by decide +kernel
theorem fit_959_901 : q_fit 959 901 = true := by decide +kernel
theorem fit_959_922 : q_fit 959 922 = true := by decide +kernel
theorem fit_959_928 : q_fit 959 928 = true := by decide +kernel
theorem fit_959_958 : q_fit 959 958 = true := by decide +kernel
theorem fit_960_900 : q_fit 960 900 = true := by decide +kernel
theorem fit_960_922 : q_fit 960 922 = true := by decide +kernel
theorem fit_960_926 : q_fit 960 926 = true := by decide +kernel
theorem fit_960_958 : q_fit 960 958 = true := by decide +kernel
theorem fit_961_928 : q_fit 961 928 = true := by decide +kernel
theorem fit_961_958 : q_fit 961 958 = true := by decide +kernel
theorem fit_962_961 : q_fit 962 961 = true := by decide +kernel
theorem fit_963_900 : q_fit 963 900 = true := by decide +kernel
theorem fit_963_901 : q_fit 963 901 = true := by decide +kernel
theorem fit_963_922 : q_fit 963 922 = true := by decide +kernel
theorem fit_963_961 : q_fit 963 961 = true := by decide +kernel
theorem fit_963_962 : q_fit 963 962 = true := by decide +kernel
theorem fit_964_900 : q_fit 964 900 = true := by decide +kernel
theorem fit_964_922 : q_fit 964 922 = true := by decide +kernel
theorem fit_964_923 : q_fit 964 923 = true := by decide +kernel
theorem fit_964_927 : q_fit 964 927 = true := by decide +kernel
theorem fit_964_928 : q_fit 964 928 = true := by decide +kernel
theorem fit_965_900 : q_fit 965 900 = true := by decide +kernel
theorem fit_966_901 : q_fit 966 901 = true := by decide +kernel
theorem fit_966_923 : q_fit 966 923 = true := by decide +kernel
theorem fit_966_927 : q_fit 966 927 = true := by decide +kernel
theorem fit_967_901 : q_fit 967 901 = true := by decide +kernel
theorem fit_967_902 : q_fit 967 902 = true := by decide +kernel
theorem fit_967_903 : q_fit 967 903 = true := by decide +kernel
theorem fit_967_923 : q_fit 967 923 = true := by decide +kernel
theorem fit_967_927 : q_fit 967 927 = true := by decide +kernel
theorem fit_967_966 : q_fit 967 966 = true := by decide +kernel
theorem fit_968_900 : q_fit 968 900 = true := by decide +kernel
theorem fit_970_901 : q_fit 970 901 = true := by decide +kernel
theorem fit_970_969 : q_fit 970 969 = true := by decide +kernel
theorem fit_971_900 : q_fit 971 900 = true := by decide +kernel
theorem fit_971_922 : q_fit 971 922 = true := by decide +kernel
theorem fit_973_958 : q_fit 973 958 = true := by decide +kernel
theorem fit_976_900 : q_fit 976 900 = true := by decide +kernel
theorem fit_976_975 : q_fit 976 975 = true := by decide +kernel
theorem fit_977_900 : q_fit 977 900 = true := by decide +kernel
theorem fit_977_975 : q_fit 977 975 = true := by decide +kernel
theorem fl_0_15 : flk 0 15 = some (0, 1) := by decide +kernel
theorem fl_0_19 : flk 0 19 = some (0, 2) := by decide +kernel
theorem fl_0_22 : flk 0 22 = some (2, 0) := by decide +kernel
theorem fl_0_28 : flk 0 28 = some (6, 10) := by decide +kernel
theorem fl_0_9 : flk 0 9 = some (0, 0) := by decide +kernel
theorem fl_1_15 : flk 1 15 = some (1, 1) := by decide +kernel
theorem fl_1_19 : flk 1 19 = some (1, 2) := by decide +kernel
theorem fl_1_35 : flk 1 35 = some (6, 8) := by decide +kernel
theorem fl_1_9 : flk 1 9 = some (1, 0) := by decide +kernel
theorem fl_2_15 : flk 2 15 = some (2, 1) := by decide +kernel
theorem fl_2_19 : flk 2 19 = some (3, 0) := by decide +kernel
theorem fl_2_25 : flk 2 25 = some (6, 3) := by decide +kernel
theorem fl_2_30 : flk 2 30 = some (6, 0) := by decide +kernel
theorem fl_2_40 : flk 2 40 = some (6, 4) := by decide +kernel
theorem fl_2_47 : flk 2 47 = some (3, 1) := by decide +kernel
theorem fl_2_69 : flk 2 69 = some (3, 2) := by decide +kernel
theorem fl_2_72 : flk 2 72 = some (3, 3) := by decide +kernel
theorem fl_2_76 : flk 2 76 = some (3, 7) := by decide +kernel
theorem fl_2_9 : flk 2 9 = some (2, 0) := by decide +kernel
theorem fl_2_92 : flk 2 92 = some (6, 11) := by decide +kernel
theorem fl_2_95 : flk 2 95 = some (6, 13) := by decide +kernel
theorem fl_2_98 : flk 2 98 = some (6, 5) := by decide +kernel
theorem fl_3_15 : flk 3 15 = some (3, 1) := by decide +kernel
theorem fl_3_18 : flk 3 18 = some (3, 2) := by decide +kernel
theorem fl_3_21 : flk 3 21 = some (6, 2) := by decide +kernel
theorem fl_3_24 : flk 3 24 = some (3, 3) := by decide +kernel
theorem fl_3_28 : flk 3 28 = some (3, 4) := by decide +kernel
theorem fl_3_31 : flk 3 31 = some (3, 5) := by decide +kernel
theorem fl_3_34 : flk 3 34 = some (3, 6) := by decide +kernel
theorem fl_3_38 : flk 3 38 = some (3, 7) := by decide +kernel
theorem fl_3_47 : flk 3 47 = some (3, 8) := by decide +kernel
theorem fl_3_9 : flk 3 9 = some (3, 0) := by decide +kernel
theorem fl_4_31 : flk 4 31 = some (4, 2) := by decide +kernel
theorem fl_4_35 : flk 4 35 = some (4, 4) := by decide +kernel
theorem fl_4_38 : flk 4 38 = some (4, 8) := by decide +kernel
theorem fl_5_108 : flk 5 108 = some (6, 11) := by decide +kernel
theorem fl_5_110 : flk 5 110 = some (6, 12) := by decide +kernel
theorem fl_5_113 : flk 5 113 = some (6, 13) := by decide +kernel
theorem fl_5_116 : flk 5 116 = some (6, 14) := by decide +kernel
theorem fl_5_118 : flk 5 118 = some (6, 8) := by decide +kernel
theorem fl_5_128 : flk 5 128 = some (6, 9) := by decide +kernel
theorem fl_5_141 : flk 5 141 = some (6, 10) := by decide +kernel
theorem fl_5_15 : flk 5 15 = some (5, 3) := by decide +kernel
theorem fl_5_152 : flk 5 152 = some (6, 15) := by decide +kernel
theorem fl_5_165 : flk 5 165 = some (5, 5) := by decide +kernel
theorem fl_5_19 : flk 5 19 = some (5, 2) := by decide +kernel
theorem fl_5_22 : flk 5 22 = some (5, 4) := by decide +kernel
theorem fl_5_25 : flk 5 25 = some (5, 6) := by decide +kernel
theorem fl_5_28 : flk 5 28 = some (5, 7) := by decide +kernel
theorem fl_5_50 : flk 5 50 = some (5, 1) := by decide +kernel
theorem fl_5_9 : flk 5 9 = some (5, 0) := by decide +kernel
theorem fl_6_15 : flk 6 15 = some (6, 1) := by decide +kernel
theorem fl_6_18 : flk 6 18 = some (6, 2) := by decide +kernel
theorem fl_6_21 : flk 6 21 = some (6, 3) := by decide +kernel
theorem fl_6_24 : flk 6 24 = some (6, 4) := by decide +kernel
theorem fl_6_27 : flk 6 27 = some (6, 5) := by decide +kernel
theorem fl_6_30 : flk 6 30 = some (6, 6) := by decide +kernel
theorem fl_6_33 : flk 6 33 = some (6, 7) := by decide +kernel
theorem fl_6_39 : flk 6 39 = some (6, 8) := by decide +kernel
theorem fl_6_43 : flk 6 43 = some (6, 9) := by decide +kernel
theorem fl_6_46 : flk 6 46 = some (6, 10) := by decide +kernel
theorem fl_6_49 : flk 6 49 = some (6, 11) := by decide +kernel
theorem fl_6_52 : flk 6 52 = some (6, 12) := by decide +kernel
theorem fl_6_55 : flk 6 55 = some (6, 13) := by decide +kernel
theorem fl_6_58 : flk 6 58 = some (6, 14) := by decide +kernel
theorem fl_6_61 : flk 6 61 = some (6, 15) := by decide +kernel
theorem fl_6_9 : flk 6 9 = some (6, 0) := by decide +kernel
theorem fl_7_15 : flk 7 15 = some (7, 1) := by decide +kernel
theorem fl_7_19 : flk 7 19 = some (2, 0) := by decide +kernel
theorem fl_7_25 : flk 7 25 = some (2, 1) := by decide +kernel
theorem fl_7_35 : flk 7 35 = some (3, 4) := by decide +kernel
theorem fl_7_44 : flk 7 44 = some (3, 0) := by decide +kernel
theorem fl_7_51 : flk 7 51 = some (3, 3) := by decide +kernel
theorem fl_7_9 : flk 7 9 = some (7, 0) := by decide +kernel
theorem fl_8_10 : flk 8 10 = some (8, 0) := by decide +kernel
theorem fl_8_107 : flk 8 107 = some (6, 10) := by decide +kernel
theorem fl_8_110 : flk 8 110 = some (5, 3) := by decide +kernel
theorem fl_8_120 : flk 8 120 = some (6, 8) := by decide +kernel
theorem fl_8_123 : flk 8 123 = some (6, 9) := by decide +kernel
theorem fl_8_126 : flk 8 126 = some (6, 11) := by decide +kernel
theorem fl_8_129 : flk 8 129 = some (6, 12) := by decide +kernel
theorem fl_8_132 : flk 8 132 = some (6, 13) := by decide +kernel
theorem fl_8_135 : flk 8 135 = some (6, 14) := by decide +kernel
theorem fl_8_138 : flk 8 138 = some (6, 15) := by decide +kernel
theorem fl_8_141 : flk 8 141 = some (3, 3) := by decide +kernel
theorem fl_8_144 : flk 8 144 = some (3, 4) := by decide +kernel
theorem fl_8_147 : flk 8 147 = some (3, 7) := by decide +kernel
theorem fl_8_154 : flk 8 154 = some (3, 5) := by decide +kernel
theorem fl_8_157 : flk 8 157 = some (3, 6) := by decide +kernel
theorem fl_8_161 : flk 8 161 = some (4, 2) := by decide +kernel
theorem fl_8_164 : flk 8 164 = some (4, 4) := by decide +kernel
theorem fl_8_167 : flk 8 167 = some (4, 8) := by decide +kernel
theorem fl_8_175 : flk 8 175 = some (6, 0) := by decide +kernel
theorem fl_8_178 : flk 8 178 = some (6, 1) := by decide +kernel
theorem fl_8_184 : flk 8 184 = some (3, 0) := by decide +kernel
theorem fl_8_19 : flk 8 19 = some (8, 1) := by decide +kernel
theorem fl_8_190 : flk 8 190 = some (6, 3) := by decide +kernel
theorem fl_8_192 : flk 8 192 = some (6, 4) := by decide +kernel
theorem fl_8_195 : flk 8 195 = some (6, 5) := by decide +kernel
theorem fl_8_198 : flk 8 198 = some (3, 1) := by decide +kernel
theorem fl_8_212 : flk 8 212 = some (6, 7) := by decide +kernel
theorem fl_8_23 : flk 8 23 = some (8, 2) := by decide +kernel
theorem fl_8_234 : flk 8 234 = some (3, 2) := by decide +kernel
theorem fl_8_29 : flk 8 29 = some (8, 3) := by decide +kernel
theorem fl_8_296 : flk 8 296 = some (0, 1) := by decide +kernel
theorem fl_8_302 : flk 8 302 = some (4, 0) := by decide +kernel
theorem fl_8_305 : flk 8 305 = some (4, 1) := by decide +kernel
theorem fl_8_321 : flk 8 321 = some (4, 3) := by decide +kernel
theorem fl_8_33 : flk 8 33 = some (8, 4) := by decide +kernel
theorem fl_8_333 : flk 8 333 = some (4, 5) := by decide +kernel
theorem fl_8_336 : flk 8 336 = some (4, 6) := by decide +kernel
theorem fl_8_339 : flk 8 339 = some (4, 7) := by decide +kernel
theorem fl_8_345 : flk 8 345 = some (3, 8) := by decide +kernel
theorem fl_8_37 : flk 8 37 = some (8, 5) := by decide +kernel
theorem fl_8_46 : flk 8 46 = some (8, 6) := by decide +kernel
theorem fl_8_53 : flk 8 53 = some (8, 7) := by decide +kernel
theorem fl_8_62 : flk 8 62 = some (8, 8) := by decide +kernel
theorem fl_8_71 : flk 8 71 = some (8, 9) := by decide +kernel
theorem fl_8_78 : flk 8 78 = some (8, 10) := by decide +kernel
theorem fl_8_83 : flk 8 83 = some (5, 1) := by decide +kernel
theorem fl_8_87 : flk 8 87 = some (5, 0) := by decide +kernel
theorem fl_8_95 : flk 8 95 = some (5, 2) := by decide +kernel
theorem fl_9_102 : flk 9 102 = some (9, 26) := by decide +kernel
theorem fl_9_109 : flk 9 109 = some (9, 27) := by decide +kernel
theorem fl_9_121 : flk 9 121 = some (9, 21) := by decide +kernel
theorem fl_9_13 : flk 9 13 = some (9, 1) := by decide +kernel
theorem fl_9_132 : flk 9 132 = some (9, 4) := by decide +kernel
theorem fl_9_135 : flk 9 135 = some (9, 18) := by decide +kernel
theorem fl_9_138 : flk 9 138 = some (9, 20) := by decide +kernel
theorem fl_9_141 : flk 9 141 = some (9, 17) := by decide +kernel
theorem fl_9_144 : flk 9 144 = some (9, 19) := by decide +kernel
theorem fl_9_149 : flk 9 149 = some (9, 22) := by decide +kernel
theorem fl_9_17 : flk 9 17 = some (9, 2) := by decide +kernel
theorem fl_9_188 : flk 9 188 = some (9, 13) := by decide +kernel
theorem fl_9_191 : flk 9 191 = some (9, 14) := by decide +kernel
theorem fl_9_194 : flk 9 194 = some (9, 15) := by decide +kernel
theorem fl_9_197 : flk 9 197 = some (9, 16) := by decide +kernel
theorem fl_9_20 : flk 9 20 = some (9, 5) := by decide +kernel
theorem fl_9_200 : flk 9 200 = some (9, 35) := by decide +kernel
theorem fl_9_203 : flk 9 203 = some (9, 37) := by decide +kernel
theorem fl_9_206 : flk 9 206 = some (9, 41) := by decide +kernel
theorem fl_9_23 : flk 9 23 = some (9, 6) := by decide +kernel
theorem fl_9_26 : flk 9 26 = some (9, 7) := by decide +kernel
theorem fl_9_29 : flk 9 29 = some (9, 8) := by decide +kernel
theorem fl_9_32 : flk 9 32 = some (9, 9) := by decide +kernel
theorem fl_9_35 : flk 9 35 = some (9, 10) := by decide +kernel
theorem fl_9_38 : flk 9 38 = some (9, 11) := by decide +kernel
theorem fl_9_41 : flk 9 41 = some (9, 12) := by decide +kernel
theorem fl_9_44 : flk 9 44 = some (9, 23) := by decide +kernel
theorem fl_9_47 : flk 9 47 = some (9, 29) := by decide +kernel
theorem fl_9_51 : flk 9 51 = some (9, 30) := by decide +kernel
theorem fl_9_54 : flk 9 54 = some (9, 31) := by decide +kernel
theorem fl_9_57 : flk 9 57 = some (9, 32) := by decide +kernel
theorem fl_9_60 : flk 9 60 = some (9, 33) := by decide +kernel
theorem fl_9_63 : flk 9 63 = some (9, 34) := by decide +kernel
theorem fl_9_66 : flk 9 66 = some (9, 36) := by decide +kernel
theorem fl_9_69 : flk 9 69 = some (9, 38) := by decide +kernel
theorem fl_9_7 : flk 9 7 = some (9, 0) := by decide +kernel
theorem fl_9_72 : flk 9 72 = some (9, 39) := by decide +kernel
theorem fl_9_75 : flk 9 75 = some (9, 40) := by decide +kernel
theorem fl_9_78 : flk 9 78 = some (9, 3) := by decide +kernel
theorem fl_9_88 : flk 9 88 = some (9, 24) := by decide +kernel
theorem fl_9_92 : flk 9 92 = some (9, 25) := by decide +kernel
theorem fl_9_95 : flk 9 95 = some (9, 28) := by decide +kernel
theorem k_m1 : (i32 (-1)).toInt = (-1) := by decide
theorem k_m1000000001 : (i32 (-1000000001)).toInt = (-1000000001) := by decide
theorem k_m1000000002 : (i32 (-1000000002)).toInt = (-1000000002) := by decide
theorem k_m1000000003 : (i32 (-1000000003)).toInt = (-1000000003) := by decide
theorem k_m1000000004 : (i32 (-1000000004)).toInt = (-1000000004) := by decide
theorem k_0 : (i32 0).toInt = 0 := by decide
theorem k_1 : (i32 1).toInt = 1 := by decide
theorem k_1431655765 : (i32 1431655765).toInt = 1431655765 := by decide
theorem k_2 : (i32 2).toInt = 2 := by decide
theorem k_252645135 : (i32 252645135).toInt = 252645135 := by decide
theorem k_3 : (i32 3).toInt = 3 := by decide
theorem k_4 : (i32 4).toInt = 4 := by decide
theorem k_5 : (i32 5).toInt = 5 := by decide
theorem k_65536 : (i32 65536).toInt = 65536 := by decide
theorem k_858993459 : (i32 858993459).toInt = 858993459 := by decide
theorem k_99999 : (i32 99999).toInt = 99999 := by decide
theorem k_99999999 : (i32 99999999).toInt = 99999999 := by decide
theorem kb_m10 : (i32 (-10)).toInt = (-10) ∧ (Int8.ofInt (-10)).toInt32 = i32 (-10) := by decide
theorem kb_m100 : (i32 (-100)).toInt = (-100) ∧ (Int8.ofInt (-100)).toInt32 = i32 (-100) := by decide
theorem kb_10 : (i32 10).toInt = 10 ∧ (Int8.ofInt 10).toInt32 = i32 10 := by decide
theorem kb_101 : (i32 101).toInt = 101 ∧ (Int8.ofInt 101).toInt32 = i32 101 := by decide
theorem kb_103 : (i32 103).toInt = 103 ∧ (Int8.ofInt 103).toInt32 = i32 103 := by decide
theorem kb_104 : (i32 104).toInt = 104 ∧ (Int8.ofInt 104).toInt32 = i32 104 := by decide
theorem kb_105 : (i32 105).toInt = 105 ∧ (Int8.ofInt 105).toInt32 = i32 105 := by decide
theorem kb_108 : (i32 108).toInt = 108 ∧ (Int8.ofInt 108).toInt32 = i32 108 := by decide
theorem kb_110 : (i32 110).toInt = 110 ∧ (Int8.ofInt 110).toInt32 = i32 110 := by decide
theorem kb_111 : (i32 111).toInt = 111 ∧ (Int8.ofInt 111).toInt32 = i32 111 := by decide
theorem kb_114 : (i32 114).toInt = 114 ∧ (Int8.ofInt 114).toInt32 = i32 114 := by decide
theorem kb_115 : (i32 115).toInt = 115 ∧ (Int8.ofInt 115).toInt32 = i32 115 := by decide
theorem kb_116 : (i32 116).toInt = 116 ∧ (Int8.ofInt 116).toInt32 = i32 116 := by decide
theorem kb_117 : (i32 117).toInt = 117 ∧ (Int8.ofInt 117).toInt32 = i32 117 := by decide
theorem kb_119 : (i32 119).toInt = 119 ∧ (Int8.ofInt 119).toInt32 = i32 119 := by decide
theorem kb_12 : (i32 12).toInt = 12 ∧ (Int8.ofInt 12).toInt32 = i32 12 := by decide
theorem kb_121 : (i32 121).toInt = 121 ∧ (Int8.ofInt 121).toInt32 = i32 121 := by decide
theorem kb_122 : (i32 122).toInt = 122 ∧ (Int8.ofInt 122).toInt32 = i32 122 := by decide
theorem kb_16 : (i32 16).toInt = 16 ∧ (Int8.ofInt 16).toInt32 = i32 16 := by decide
theorem kb_17 : (i32 17).toInt = 17 ∧ (Int8.ofInt 17).toInt32 = i32 17 := by decide
theorem kb_18 : (i32 18).toInt = 18 ∧ (Int8.ofInt 18).toInt32 = i32 18 := by decide
theorem kb_19 : (i32 19).toInt = 19 ∧ (Int8.ofInt 19).toInt32 = i32 19 := by decide
theorem kb_20 : (i32 20).toInt = 20 ∧ (Int8.ofInt 20).toInt32 = i32 20 := by decide
theorem kb_21 : (i32 21).toInt = 21 ∧ (Int8.ofInt 21).toInt32 = i32 21 := by decide
theorem kb_22 : (i32 22).toInt = 22 ∧ (Int8.ofInt 22).toInt32 = i32 22 := by decide
theorem kb_23 : (i32 23).toInt = 23 ∧ (Int8.ofInt 23).toInt32 = i32 23 := by decide
theorem kb_24 : (i32 24).toInt = 24 ∧ (Int8.ofInt 24).toInt32 = i32 24 := by decide
theorem kb_30 : (i32 30).toInt = 30 ∧ (Int8.ofInt 30).toInt32 = i32 30 := by decide
theorem kb_32 : (i32 32).toInt = 32 ∧ (Int8.ofInt 32).toInt32 = i32 32 := by decide
theorem kb_36 : (i32 36).toInt = 36 ∧ (Int8.ofInt 36).toInt32 = i32 36 := by decide
theorem kb_48 : (i32 48).toInt = 48 ∧ (Int8.ofInt 48).toInt32 = i32 48 := by decide
theorem kb_49 : (i32 49).toInt = 49 ∧ (Int8.ofInt 49).toInt32 = i32 49 := by decide
theorem kb_57 : (i32 57).toInt = 57 ∧ (Int8.ofInt 57).toInt32 = i32 57 := by decide
theorem kb_59 : (i32 59).toInt = 59 ∧ (Int8.ofInt 59).toInt32 = i32 59 := by decide
theorem kb_6 : (i32 6).toInt = 6 ∧ (Int8.ofInt 6).toInt32 = i32 6 := by decide
theorem kb_63 : (i32 63).toInt = 63 ∧ (Int8.ofInt 63).toInt32 = i32 63 := by decide
theorem kb_8 : (i32 8).toInt = 8 ∧ (Int8.ofInt 8).toInt32 = i32 8 := by decide
theorem kb_9 : (i32 9).toInt = 9 ∧ (Int8.ofInt 9).toInt32 = i32 9 := by decide
theorem kb_97 : (i32 97).toInt = 97 ∧ (Int8.ofInt 97).toInt32 = i32 97 := by decide
theorem kb_99 : (i32 99).toInt = 99 ∧ (Int8.ofInt 99).toInt32 = i32 99 := by decide
theorem ks_m1000 : (i32 (-1000)).toInt = (-1000) ∧ (Int16.ofInt (-1000)).toInt32 = i32 (-1000) := by decide
theorem ks_216 : (i32 216).toInt = 216 ∧ (Int16.ofInt 216).toInt32 = i32 216 := by decide
theorem ks_255 : (i32 255).toInt = 255 ∧ (Int16.ofInt 255).toInt32 = i32 255 := by decide
theorem ks_300 : (i32 300).toInt = 300 ∧ (Int16.ofInt 300).toInt32 = i32 300 := by decide
theorem ks_999 : (i32 999).toInt = 999 ∧ (Int16.ofInt 999).toInt32 = i32 999 := by decide
theorem ks_9999 : (i32 9999).toInt = 9999 ∧ (Int16.ofInt 9999).toInt32 = i32 9999 := by decide
theorem ld_11_265 : ldk 11 265 = some 1431655765 := by decide +kernel
theorem ld_11_266 : ldk 11 266 = some 858993459 := by decide +kernel
theorem ld_11_267 : ldk 11 267 = some 252645135 := by decide +kernel
theorem ld_3_56 : ldk 3 56 = some 65536 := by decide +kernel
theorem ld_8_174 : ldk 8 174 = some (-1000000001) := by decide +kernel
theorem ld_8_215 : ldk 8 215 = some 99999 := by decide +kernel
theorem ld_8_222 : ldk 8 222 = some (-1000000003) := by decide +kernel
theorem ld_8_82 : ldk 8 82 = some (-1000000002) := by decide +kernel
theorem ld_8_86 : ldk 8 86 = some (-1000000004) := by decide +kernel
theorem ld_9_120 : ldk 9 120 = some 99999 := by decide +kernel
theorem ld_9_231 : ldk 9 231 = some (-1000000001) := by decide +kernel
theorem ld_9_251 : ldk 9 251 = some (-1000000003) := by decide +kernel
theorem ld_9_260 : ldk 9 260 = some 65536 := by decide +kernel
theorem ld_9_270 : ldk 9 270 = some 99999999 := by decide +kernel
theorem ld_9_87 : ldk 9 87 = some (-1000000002) := by decide +kernel
theorem ld_9_91 : ldk 9 91 = some (-1000000004) := by decide +kernel
theorem ll_3_50 : llk 3 50 = some 1103515245 ∧ (i64 1103515245).toInt = 1103515245 := by decide +kernel
theorem ll_3_52 : llk 3 52 = some 12345 ∧ (i64 12345).toInt = 12345 := by decide +kernel
theorem ll_3_54 : llk 3 54 = some 2147483647 ∧ (i64 2147483647).toInt = 2147483647 := by decide +kernel
theorem ll_9_105 : llk 9 105 = some 97 ∧ (i64 97).toInt = 97 := by decide +kernel
theorem ll_9_107 : llk 9 107 = some 122 ∧ (i64 122).toInt = 122 := by decide +kernel
theorem ll_9_112 : llk 9 112 = some 48 ∧ (i64 48).toInt = 48 := by decide +kernel
theorem ll_9_114 : llk 9 114 = some 57 ∧ (i64 57).toInt = 57 := by decide +kernel
theorem ll_9_147 : llk 9 147 = some 99 ∧ (i64 99).toInt = 99 := by decide +kernel
theorem ll_9_247 : llk 9 247 = some 99999 ∧ (i64 99999).toInt = 99999 := by decide +kernel
theorem ll_9_249 : llk 9 249 = some 999 ∧ (i64 999).toInt = 999 := by decide +kernel
theorem ll_9_252 : llk 9 252 = some 5 ∧ (i64 5).toInt = 5 := by decide +kernel
theorem ll_9_254 : llk 9 254 = some 1103515245 ∧ (i64 1103515245).toInt = 1103515245 := by decide +kernel
theorem ll_9_256 : llk 9 256 = some 12345 ∧ (i64 12345).toInt = 12345 := by decide +kernel
theorem ll_9_258 : llk 9 258 = some 2147483648 ∧ (i64 2147483648).toInt = 2147483648 := by decide +kernel
theorem ll_9_293 : llk 9 293 = some 2 ∧ (i64 2).toInt = 2 := by decide +kernel
theorem ll_9_298 : llk 9 298 = some 23 ∧ (i64 23).toInt = 23 := by decide +kernel
theorem ll_9_81 : llk 9 81 = some 255 ∧ (i64 255).toInt = 255 := by decide +kernel
theorem ml_0_34 : mlk 0 34 = some (0, 209) := by decide +kernel
theorem ml_0_38 : mlk 0 38 = some (0, 1) := by decide +kernel
theorem ml_0_42 : mlk 0 42 = some (0, 3) := by decide +kernel
theorem ml_0_46 : mlk 0 46 = some (0, 2) := by decide +kernel
theorem ml_0_50 : mlk 0 50 = some (2, 848) := by decide +kernel
theorem ml_1_22 : mlk 1 22 = some (0, 101) := by decide +kernel
theorem ml_1_25 : mlk 1 25 = some (0, 102) := by decide +kernel
theorem ml_1_29 : mlk 1 29 = some (0, 103) := by decide +kernel
theorem ml_1_32 : mlk 1 32 = some (0, 105) := by decide +kernel
theorem ml_1_41 : mlk 1 41 = some (0, 104) := by decide +kernel
theorem ml_1_45 : mlk 1 45 = some (0, 610) := by decide +kernel
theorem ml_1_48 : mlk 1 48 = some (0, 106) := by decide +kernel
theorem ml_1_52 : mlk 1 52 = some (2, 848) := by decide +kernel
theorem ml_1_56 : mlk 1 56 = some (0, 107) := by decide +kernel
theorem ml_2_33 : mlk 2 33 = some (0, 603) := by decide +kernel
theorem ml_2_37 : mlk 2 37 = some (0, 611) := by decide +kernel
theorem ml_2_43 : mlk 2 43 = some (0, 200) := by decide +kernel
theorem ml_2_50 : mlk 2 50 = some (0, 201) := by decide +kernel
theorem ml_2_54 : mlk 2 54 = some (0, 202) := by decide +kernel
theorem ml_2_57 : mlk 2 57 = some (0, 205) := by decide +kernel
theorem ml_2_61 : mlk 2 61 = some (0, 203) := by decide +kernel
theorem ml_2_64 : mlk 2 64 = some (1, 1201) := by decide +kernel
theorem ml_2_79 : mlk 2 79 = some (0, 612) := by decide +kernel
theorem ml_2_82 : mlk 2 82 = some (0, 204) := by decide +kernel
theorem ml_2_85 : mlk 2 85 = some (0, 207) := by decide +kernel
theorem ml_2_89 : mlk 2 89 = some (0, 613) := by decide +kernel
theorem ml_3_41 : mlk 3 41 = some (3, 0) := by decide +kernel
theorem ml_5_100 : mlk 5 100 = some (0, 513) := by decide +kernel
theorem ml_5_104 : mlk 5 104 = some (0, 511) := by decide +kernel
theorem ml_5_121 : mlk 5 121 = some (0, 514) := by decide +kernel
theorem ml_5_125 : mlk 5 125 = some (0, 604) := by decide +kernel
theorem ml_5_131 : mlk 5 131 = some (0, 609) := by decide +kernel
theorem ml_5_134 : mlk 5 134 = some (2, 848) := by decide +kernel
theorem ml_5_138 : mlk 5 138 = some (0, 605) := by decide +kernel
theorem ml_5_144 : mlk 5 144 = some (0, 606) := by decide +kernel
theorem ml_5_148 : mlk 5 148 = some (0, 509) := by decide +kernel
theorem ml_5_155 : mlk 5 155 = some (0, 510) := by decide +kernel
theorem ml_5_159 : mlk 5 159 = some (0, 607) := by decide +kernel
theorem ml_5_162 : mlk 5 162 = some (1, 521) := by decide +kernel
theorem ml_5_168 : mlk 5 168 = some (1, 520) := by decide +kernel
theorem ml_5_171 : mlk 5 171 = some (0, 1000) := by decide +kernel
theorem ml_5_175 : mlk 5 175 = some (0, 1001) := by decide +kernel
theorem ml_5_31 : mlk 5 31 = some (0, 600) := by decide +kernel
theorem ml_5_36 : mlk 5 36 = some (0, 516) := by decide +kernel
theorem ml_5_39 : mlk 5 39 = some (0, 519) := by decide +kernel
theorem ml_5_43 : mlk 5 43 = some (0, 501) := by decide +kernel
theorem ml_5_47 : mlk 5 47 = some (0, 512) := by decide +kernel
theorem ml_5_53 : mlk 5 53 = some (0, 517) := by decide +kernel
theorem ml_5_59 : mlk 5 59 = some (0, 518) := by decide +kernel
theorem ml_5_63 : mlk 5 63 = some (0, 502) := by decide +kernel
theorem ml_5_68 : mlk 5 68 = some (0, 503) := by decide +kernel
theorem ml_5_73 : mlk 5 73 = some (0, 504) := by decide +kernel
theorem ml_5_78 : mlk 5 78 = some (0, 505) := by decide +kernel
theorem ml_5_83 : mlk 5 83 = some (0, 506) := by decide +kernel
theorem ml_5_88 : mlk 5 88 = some (0, 507) := by decide +kernel
theorem ml_5_93 : mlk 5 93 = some (0, 508) := by decide +kernel
theorem ml_5_96 : mlk 5 96 = some (0, 515) := by decide +kernel
theorem ml_6_64 : mlk 6 64 = some (3, 0) := by decide +kernel
theorem ml_6_70 : mlk 6 70 = some (0, 602) := by decide +kernel
theorem ml_6_74 : mlk 6 74 = some (0, 603) := by decide +kernel
theorem ml_6_77 : mlk 6 77 = some (1, 1200) := by decide +kernel
theorem ml_7_29 : mlk 7 29 = some (0, 603) := by decide +kernel
theorem ml_7_41 : mlk 7 41 = some (0, 602) := by decide +kernel
theorem ml_7_47 : mlk 7 47 = some (0, 701) := by decide +kernel
theorem ml_7_54 : mlk 7 54 = some (0, 208) := by decide +kernel
theorem ml_7_58 : mlk 7 58 = some (0, 702) := by decide +kernel
theorem ml_7_62 : mlk 7 62 = some (2, 848) := by decide +kernel
theorem ml_7_65 : mlk 7 65 = some (0, 609) := by decide +kernel
theorem ml_7_68 : mlk 7 68 = some (0, 704) := by decide +kernel
theorem ml_7_72 : mlk 7 72 = some (0, 610) := by decide +kernel
theorem ml_8_101 : mlk 8 101 = some (0, 300) := by decide +kernel
theorem ml_8_104 : mlk 8 104 = some (0, 400) := by decide +kernel
theorem ml_8_113 : mlk 8 113 = some (0, 804) := by decide +kernel
theorem ml_8_117 : mlk 8 117 = some (0, 805) := by decide +kernel
theorem ml_8_150 : mlk 8 150 = some (0, 207) := by decide +kernel
theorem ml_8_170 : mlk 8 170 = some (0, 602) := by decide +kernel
theorem ml_8_181 : mlk 8 181 = some (0, 807) := by decide +kernel
theorem ml_8_187 : mlk 8 187 = some (0, 603) := by decide +kernel
theorem ml_8_201 : mlk 8 201 = some (0, 206) := by decide +kernel
theorem ml_8_204 : mlk 8 204 = some (0, 204) := by decide +kernel
theorem ml_8_208 : mlk 8 208 = some (0, 208) := by decide +kernel
theorem ml_8_216 : mlk 8 216 = some (0, 609) := by decide +kernel
theorem ml_8_219 : mlk 8 219 = some (1, 848) := by decide +kernel
theorem ml_8_223 : mlk 8 223 = some (0, 813) := by decide +kernel
theorem ml_8_226 : mlk 8 226 = some (1, 1202) := by decide +kernel
theorem ml_8_231 : mlk 8 231 = some (0, 205) := by decide +kernel
theorem ml_8_237 : mlk 8 237 = some (0, 818) := by decide +kernel
theorem ml_8_240 : mlk 8 240 = some (0, 820) := by decide +kernel
theorem ml_8_243 : mlk 8 243 = some (1, 1100) := by decide +kernel
theorem ml_8_248 : mlk 8 248 = some (0, 302) := by decide +kernel
theorem ml_8_251 : mlk 8 251 = some (1, 819) := by decide +kernel
theorem ml_8_255 : mlk 8 255 = some (0, 700) := by decide +kernel
theorem ml_8_258 : mlk 8 258 = some (0, 703) := by decide +kernel
theorem ml_8_261 : mlk 8 261 = some (0, 100) := by decide +kernel
theorem ml_8_265 : mlk 8 265 = some (0, 825) := by decide +kernel
theorem ml_8_269 : mlk 8 269 = some (0, 210) := by decide +kernel
theorem ml_8_272 : mlk 8 272 = some (0, 211) := by decide +kernel
theorem ml_8_275 : mlk 8 275 = some (1, 849) := by decide +kernel
theorem ml_8_278 : mlk 8 278 = some (0, 829) := by decide +kernel
theorem ml_8_281 : mlk 8 281 = some (0, 209) := by decide +kernel
theorem ml_8_284 : mlk 8 284 = some (0, 203) := by decide +kernel
theorem ml_8_287 : mlk 8 287 = some (0, 212) := by decide +kernel
theorem ml_8_290 : mlk 8 290 = some (0, 0) := by decide +kernel
theorem ml_8_293 : mlk 8 293 = some (0, 3) := by decide +kernel
theorem ml_8_299 : mlk 8 299 = some (0, 213) := by decide +kernel
theorem ml_8_309 : mlk 8 309 = some (0, 834) := by decide +kernel
theorem ml_8_312 : mlk 8 312 = some (0, 835) := by decide +kernel
theorem ml_8_315 : mlk 8 315 = some (0, 837) := by decide +kernel
theorem ml_8_318 : mlk 8 318 = some (1, 1201) := by decide +kernel
theorem ml_8_324 : mlk 8 324 = some (0, 840) := by decide +kernel
theorem ml_8_327 : mlk 8 327 = some (0, 841) := by decide +kernel
theorem ml_8_330 : mlk 8 330 = some (0, 608) := by decide +kernel
theorem ml_8_342 : mlk 8 342 = some (0, 613) := by decide +kernel
theorem ml_8_348 : mlk 8 348 = some (0, 301) := by decide +kernel
theorem ml_8_91 : mlk 8 91 = some (0, 500) := by decide +kernel
theorem ml_8_98 : mlk 8 98 = some (0, 601) := by decide +kernel
theorem ml_9_116 : mlk 9 116 = some (0, 906) := by decide +kernel
theorem ml_9_124 : mlk 9 124 = some (1, 902) := by decide +kernel
theorem ml_9_128 : mlk 9 128 = some (0, 909) := by decide +kernel
theorem ml_9_152 : mlk 9 152 = some (0, 907) := by decide +kernel
theorem ml_9_155 : mlk 9 155 = some (0, 916) := by decide +kernel
theorem ml_9_159 : mlk 9 159 = some (0, 908) := by decide +kernel
theorem ml_9_163 : mlk 9 163 = some (0, 910) := by decide +kernel
theorem ml_9_167 : mlk 9 167 = some (0, 911) := by decide +kernel
theorem ml_9_170 : mlk 9 170 = some (0, 913) := by decide +kernel
theorem ml_9_173 : mlk 9 173 = some (0, 914) := by decide +kernel
theorem ml_9_176 : mlk 9 176 = some (0, 915) := by decide +kernel
theorem ml_9_179 : mlk 9 179 = some (0, 917) := by decide +kernel
theorem ml_9_182 : mlk 9 182 = some (0, 912) := by decide +kernel
theorem ml_9_185 : mlk 9 185 = some (0, 918) := by decide +kernel
theorem ml_9_209 : mlk 9 209 = some (0, 923) := by decide +kernel
theorem ml_9_213 : mlk 9 213 = some (0, 924) := by decide +kernel
theorem ml_9_216 : mlk 9 216 = some (0, 926) := by decide +kernel
theorem ml_9_220 : mlk 9 220 = some (0, 928) := by decide +kernel
theorem ml_9_223 : mlk 9 223 = some (1, 901) := by decide +kernel
theorem ml_9_227 : mlk 9 227 = some (0, 921) := by decide +kernel
theorem ml_9_232 : mlk 9 232 = some (0, 930) := by decide +kernel
theorem ml_9_235 : mlk 9 235 = some (0, 922) := by decide +kernel
theorem ml_9_238 : mlk 9 238 = some (0, 932) := by decide +kernel
theorem ml_9_241 : mlk 9 241 = some (0, 925) := by decide +kernel
theorem ml_9_244 : mlk 9 244 = some (0, 927) := by decide +kernel
theorem ml_9_261 : mlk 9 261 = some (1, 903) := by decide +kernel
theorem ml_9_264 : mlk 9 264 = some (0, 941) := by decide +kernel
theorem ml_9_267 : mlk 9 267 = some (0, 942) := by decide +kernel
theorem ml_9_271 : mlk 9 271 = some (0, 944) := by decide +kernel
theorem ml_9_274 : mlk 9 274 = some (0, 945) := by decide +kernel
theorem ml_9_277 : mlk 9 277 = some (0, 947) := by decide +kernel
theorem ml_9_280 : mlk 9 280 = some (1, 948) := by decide +kernel
theorem ml_9_283 : mlk 9 283 = some (0, 949) := by decide +kernel
theorem ml_9_286 : mlk 9 286 = some (0, 950) := by decide +kernel
theorem ml_9_290 : mlk 9 290 = some (0, 951) := by decide +kernel
theorem ml_9_295 : mlk 9 295 = some (0, 952) := by decide +kernel
theorem ml_9_300 : mlk 9 300 = some (0, 955) := by decide +kernel
theorem ml_9_303 : mlk 9 303 = some (0, 956) := by decide +kernel
theorem ml_9_307 : mlk 9 307 = some (0, 958) := by decide +kernel
theorem ml_9_310 : mlk 9 310 = some (0, 961) := by decide +kernel
theorem ml_9_313 : mlk 9 313 = some (0, 962) := by decide +kernel
theorem ml_9_316 : mlk 9 316 = some (0, 966) := by decide +kernel
theorem ml_9_319 : mlk 9 319 = some (0, 969) := by decide +kernel
theorem ml_9_322 : mlk 9 322 = some (0, 975) := by decide +kernel
theorem ml_9_83 : mlk 9 83 = some (1, 900) := by decide +kernel
theorem ml_9_98 : mlk 9 98 = some (0, 905) := by decide +kernel
theorem par_0 : q_par 0 = some 0 := by decide +kernel
theorem par_1 : q_par 1 = some 0 := by decide +kernel
theorem par_100 : q_par 100 = some 1 := by decide +kernel
theorem par_1000 : q_par 1000 = some 0 := by decide +kernel
theorem par_1001 : q_par 1001 = some 1 := by decide +kernel
theorem par_101 : q_par 101 = some 0 := by decide +kernel
theorem par_102 : q_par 102 = some 1 := by decide +kernel
theorem par_103 : q_par 103 = some 0 := by decide +kernel
theorem par_104 : q_par 104 = some 1 := by decide +kernel
theorem par_105 : q_par 105 = some 1 := by decide +kernel
theorem par_106 : q_par 106 = some 3 := by decide +kernel
theorem par_107 : q_par 107 = some 2 := by decide +kernel
theorem par_1100 : q_par 1100 = some 1 := by decide +kernel
theorem par_1200 : q_par 1200 = some 2 := by decide +kernel
theorem par_1201 : q_par 1201 = some 2 := by decide +kernel
theorem par_1202 : q_par 1202 = some 2 := by decide +kernel
theorem par_2 : q_par 2 = some 1 := by decide +kernel
theorem par_200 : q_par 200 = some 1 := by decide +kernel
theorem par_201 : q_par 201 = some 2 := by decide +kernel
theorem par_202 : q_par 202 = some 1 := by decide +kernel
theorem par_203 : q_par 203 = some 2 := by decide +kernel
theorem par_204 : q_par 204 = some 2 := by decide +kernel
theorem par_205 : q_par 205 = some 2 := by decide +kernel
theorem par_206 : q_par 206 = some 1 := by decide +kernel
theorem par_207 : q_par 207 = some 0 := by decide +kernel
theorem par_208 : q_par 208 = some 2 := by decide +kernel
theorem par_209 : q_par 209 = some 1 := by decide +kernel
theorem par_210 : q_par 210 = some 2 := by decide +kernel
theorem par_211 : q_par 211 = some 3 := by decide +kernel
theorem par_212 : q_par 212 = some 2 := by decide +kernel
theorem par_213 : q_par 213 = some 2 := by decide +kernel
theorem par_3 : q_par 3 = some 0 := by decide +kernel
theorem par_300 : q_par 300 = some 1 := by decide +kernel
theorem par_301 : q_par 301 = some 1 := by decide +kernel
theorem par_302 : q_par 302 = some 1 := by decide +kernel
theorem par_400 : q_par 400 = some 0 := by decide +kernel
theorem par_500 : q_par 500 = some 1 := by decide +kernel
theorem par_501 : q_par 501 = some 1 := by decide +kernel
theorem par_502 : q_par 502 = some 1 := by decide +kernel
theorem par_503 : q_par 503 = some 1 := by decide +kernel
theorem par_504 : q_par 504 = some 1 := by decide +kernel
theorem par_505 : q_par 505 = some 1 := by decide +kernel
theorem par_506 : q_par 506 = some 1 := by decide +kernel
theorem par_507 : q_par 507 = some 1 := by decide +kernel
theorem par_508 : q_par 508 = some 1 := by decide +kernel
theorem par_509 : q_par 509 = some 2 := by decide +kernel
theorem par_510 : q_par 510 = some 1 := by decide +kernel
theorem par_511 : q_par 511 = some 2 := by decide +kernel
theorem par_512 : q_par 512 = some 0 := by decide +kernel
theorem par_513 : q_par 513 = some 2 := by decide +kernel
theorem par_514 : q_par 514 = some 3 := by decide +kernel
theorem par_515 : q_par 515 = some 1 := by decide +kernel
theorem par_516 : q_par 516 = some 0 := by decide +kernel
theorem par_517 : q_par 517 = some 0 := by decide +kernel
theorem par_518 : q_par 518 = some 2 := by decide +kernel
theorem par_519 : q_par 519 = some 1 := by decide +kernel
theorem par_520 : q_par 520 = some 1 := by decide +kernel
theorem par_521 : q_par 521 = some 1 := by decide +kernel
theorem par_600 : q_par 600 = some 0 := by decide +kernel
theorem par_601 : q_par 601 = some 1 := by decide +kernel
theorem par_602 : q_par 602 = some 1 := by decide +kernel
theorem par_603 : q_par 603 = some 1 := by decide +kernel
theorem par_604 : q_par 604 = some 1 := by decide +kernel
theorem par_605 : q_par 605 = some 2 := by decide +kernel
theorem par_606 : q_par 606 = some 4 := by decide +kernel
theorem par_607 : q_par 607 = some 3 := by decide +kernel
theorem par_608 : q_par 608 = some 2 := by decide +kernel
theorem par_609 : q_par 609 = some 1 := by decide +kernel
theorem par_610 : q_par 610 = some 1 := by decide +kernel
theorem par_611 : q_par 611 = some 1 := by decide +kernel
theorem par_612 : q_par 612 = some 1 := by decide +kernel
theorem par_613 : q_par 613 = some 2 := by decide +kernel
theorem par_700 : q_par 700 = some 1 := by decide +kernel
theorem par_701 : q_par 701 = some 1 := by decide +kernel
theorem par_702 : q_par 702 = some 1 := by decide +kernel
theorem par_703 : q_par 703 = some 2 := by decide +kernel
theorem par_704 : q_par 704 = some 2 := by decide +kernel
theorem par_804 : q_par 804 = some 1 := by decide +kernel
theorem par_805 : q_par 805 = some 1 := by decide +kernel
theorem par_807 : q_par 807 = some 1 := by decide +kernel
theorem par_813 : q_par 813 = some 1 := by decide +kernel
theorem par_818 : q_par 818 = some 0 := by decide +kernel
theorem par_819 : q_par 819 = some 3 := by decide +kernel
theorem par_820 : q_par 820 = some 0 := by decide +kernel
theorem par_825 : q_par 825 = some 3 := by decide +kernel
theorem par_829 : q_par 829 = some 2 := by decide +kernel
theorem par_834 : q_par 834 = some 0 := by decide +kernel
theorem par_835 : q_par 835 = some 1 := by decide +kernel
theorem par_837 : q_par 837 = some 2 := by decide +kernel
theorem par_840 : q_par 840 = some 1 := by decide +kernel
theorem par_841 : q_par 841 = some 2 := by decide +kernel
theorem par_848 : q_par 848 = some 2 := by decide +kernel
theorem par_849 : q_par 849 = some 1 := by decide +kernel
theorem par_900 : q_par 900 = some 3 := by decide +kernel
theorem par_901 : q_par 901 = some 1 := by decide +kernel
theorem par_902 : q_par 902 = some 2 := by decide +kernel
theorem par_903 : q_par 903 = some 1 := by decide +kernel
theorem par_905 : q_par 905 = some 0 := by decide +kernel
theorem par_906 : q_par 906 = some 3 := by decide +kernel
theorem par_907 : q_par 907 = some 0 := by decide +kernel
theorem par_908 : q_par 908 = some 6 := by decide +kernel
theorem par_909 : q_par 909 = some 2 := by decide +kernel
theorem par_910 : q_par 910 = some 1 := by decide +kernel
theorem par_911 : q_par 911 = some 1 := by decide +kernel
theorem par_912 : q_par 912 = some 1 := by decide +kernel
theorem par_913 : q_par 913 = some 1 := by decide +kernel
theorem par_914 : q_par 914 = some 1 := by decide +kernel
theorem par_915 : q_par 915 = some 1 := by decide +kernel
theorem par_916 : q_par 916 = some 0 := by decide +kernel
theorem par_917 : q_par 917 = some 0 := by decide +kernel
theorem par_918 : q_par 918 = some 0 := by decide +kernel
theorem par_921 : q_par 921 = some 1 := by decide +kernel
theorem par_922 : q_par 922 = some 1 := by decide +kernel
theorem par_923 : q_par 923 = some 3 := by decide +kernel
theorem par_924 : q_par 924 = some 2 := by decide +kernel
theorem par_925 : q_par 925 = some 2 := by decide +kernel
theorem par_926 : q_par 926 = some 1 := by decide +kernel
theorem par_927 : q_par 927 = some 2 := by decide +kernel
theorem par_928 : q_par 928 = some 0 := by decide +kernel
theorem par_930 : q_par 930 = some 1 := by decide +kernel
theorem par_932 : q_par 932 = some 1 := by decide +kernel
theorem par_941 : q_par 941 = some 1 := by decide +kernel
theorem par_942 : q_par 942 = some 0 := by decide +kernel
theorem par_944 : q_par 944 = some 1 := by decide +kernel
theorem par_945 : q_par 945 = some 1 := by decide +kernel
theorem par_947 : q_par 947 = some 2 := by decide +kernel
theorem par_948 : q_par 948 = some 3 := by decide +kernel
theorem par_949 : q_par 949 = some 3 := by decide +kernel
theorem par_950 : q_par 950 = some 4 := by decide +kernel
theorem par_951 : q_par 951 = some 1 := by decide +kernel
theorem par_952 : q_par 952 = some 1 := by decide +kernel
theorem par_955 : q_par 955 = some 3 := by decide +kernel
theorem par_956 : q_par 956 = some 3 := by decide +kernel
theorem par_958 : q_par 958 = some 3 := by decide +kernel
theorem par_961 : q_par 961 = some 0 := by decide +kernel
theorem par_962 : q_par 962 = some 1 := by decide +kernel
theorem par_966 : q_par 966 = some 0 := by decide +kernel
theorem par_969 : q_par 969 = some 2 := by decide +kernel
theorem par_975 : q_par 975 = some 2 := by decide +kernel
theorem sh_0 : qsh 0 = some (2, 8, [some 1, some 3, some 12, some 21, some 25, none, some 34, some 35, some 42, some 44, some 47]) := rfl
theorem sh_1 : qsh 1 = some (2, 5, [some 2, none, none, none, none, none, none, none]) := rfl
theorem sh_10 : qsh 10 = some (0, 36, []) := rfl
theorem sh_11 : qsh 11 = some (0, 6, []) := rfl
theorem sh_12 : qsh 12 = some (2, 6, [some 13, some 14, some 15, some 16, some 17, some 18, some 19, some 20, none, none, none, none, none, none, none, none]) := rfl
theorem sh_13 : qsh 13 = some (0, 6, []) := rfl
theorem sh_14 : qsh 14 = some (0, 6, []) := rfl
theorem sh_15 : qsh 15 = some (0, 6, []) := rfl
theorem sh_16 : qsh 16 = some (0, 6, []) := rfl
theorem sh_17 : qsh 17 = some (0, 6, []) := rfl
theorem sh_18 : qsh 18 = some (0, 6, []) := rfl
theorem sh_19 : qsh 19 = some (0, 36, []) := rfl
theorem sh_2 : qsh 2 = some (0, 300, []) := rfl
theorem sh_20 : qsh 20 = some (0, 6, []) := rfl
theorem sh_21 : qsh 21 = some (2, 3, [some 22, some 23, some 24, none, none, none, none, none, none]) := rfl
theorem sh_22 : qsh 22 = some (0, 6, []) := rfl
theorem sh_23 : qsh 23 = some (0, 6, []) := rfl
theorem sh_24 : qsh 24 = some (0, 6, []) := rfl
theorem sh_25 : qsh 25 = some (3, 2, [some 26, some 30]) := rfl
theorem sh_26 : qsh 26 = some (2, 3, [some 27, some 28, some 29, none, none, none, none, none, none]) := rfl
theorem sh_27 : qsh 27 = some (0, 6, []) := rfl
theorem sh_28 : qsh 28 = some (0, 6, []) := rfl
theorem sh_29 : qsh 29 = some (0, 6, []) := rfl
theorem sh_3 : qsh 3 = some (2, 6, [some 4, some 5, some 6, some 7, some 8, some 9, some 10, some 11, none, none, none, none, none, none, none, none]) := rfl
theorem sh_30 : qsh 30 = some (2, 3, [some 31, some 32, some 33, none, none, none, none, none, none]) := rfl
theorem sh_31 : qsh 31 = some (0, 6, []) := rfl
theorem sh_32 : qsh 32 = some (0, 6, []) := rfl
theorem sh_33 : qsh 33 = some (0, 6, []) := rfl
theorem sh_34 : qsh 34 = some (2, 2, [some 12, some 21]) := rfl
theorem sh_35 : qsh 35 = some (2, 4, [some 36, some 37, none, some 38, none, some 39, some 40, some 41, none]) := rfl
theorem sh_36 : qsh 36 = some (0, 20, []) := rfl
theorem sh_37 : qsh 37 = some (1, 20, []) := rfl
theorem sh_38 : qsh 38 = some (0, 12, []) := rfl
theorem sh_39 : qsh 39 = some (0, 30, []) := rfl
theorem sh_4 : qsh 4 = some (0, 6, []) := rfl
theorem sh_40 : qsh 40 = some (0, 30, []) := rfl
theorem sh_41 : qsh 41 = some (1, 30, []) := rfl
theorem sh_42 : qsh 42 = some (2, 7, [some 34, some 43]) := rfl
theorem sh_43 : qsh 43 = some (0, 6, []) := rfl
theorem sh_44 : qsh 44 = some (2, 1, [some 12, some 45, some 46]) := rfl
theorem sh_45 : qsh 45 = some (0, 36, []) := rfl
theorem sh_46 : qsh 46 = some (0, 36, []) := rfl
theorem sh_47 : qsh 47 = some (2, 0, [some 34, some 48, some 49]) := rfl
theorem sh_48 : qsh 48 = some (0, 6, []) := rfl
theorem sh_49 : qsh 49 = some (0, 6, []) := rfl
theorem sh_5 : qsh 5 = some (0, 6, []) := rfl
theorem sh_50 : qsh 50 = some (2, 9, [some 51, some 52, some 53, none, none, some 54, some 55, some 56, some 57, some 58, some 59, some 60, some 61, none, none, none, none, none, none, none, none, none, none, some 62, none, none, none, none, none, none, some 63, some 64, some 65, some 66, some 67, none, some 68, none, some 69, some 70, some 71, none]) := rfl
theorem sh_51 : qsh 51 = some (0, 96, []) := rfl
theorem sh_52 : qsh 52 = some (1, 2, []) := rfl
theorem sh_53 : qsh 53 = some (0, 6, []) := rfl
theorem sh_54 : qsh 54 = some (0, 12, []) := rfl
theorem sh_55 : qsh 55 = some (0, 12, []) := rfl
theorem sh_56 : qsh 56 = some (0, 12, []) := rfl
theorem sh_57 : qsh 57 = some (0, 12, []) := rfl
theorem sh_58 : qsh 58 = some (0, 12, []) := rfl
theorem sh_59 : qsh 59 = some (0, 12, []) := rfl
theorem sh_6 : qsh 6 = some (0, 6, []) := rfl
theorem sh_60 : qsh 60 = some (0, 72, []) := rfl
theorem sh_61 : qsh 61 = some (0, 12, []) := rfl
theorem sh_62 : qsh 62 = some (0, 300, []) := rfl
theorem sh_63 : qsh 63 = some (0, 6, []) := rfl
theorem sh_64 : qsh 64 = some (0, 216, []) := rfl
theorem sh_65 : qsh 65 = some (0, 6, []) := rfl
theorem sh_66 : qsh 66 = some (0, 20, []) := rfl
theorem sh_67 : qsh 67 = some (1, 20, []) := rfl
theorem sh_68 : qsh 68 = some (0, 12, []) := rfl
theorem sh_69 : qsh 69 = some (0, 30, []) := rfl
theorem sh_7 : qsh 7 = some (0, 6, []) := rfl
theorem sh_70 : qsh 70 = some (0, 30, []) := rfl
theorem sh_71 : qsh 71 = some (1, 30, []) := rfl
theorem sh_8 : qsh 8 = some (0, 6, []) := rfl
theorem sh_9 : qsh 9 = some (0, 6, []) := rfl
theorem st_5_57 : ldk 5 57 = none ∧ stk 5 57 = some 0 := by decide +kernel
theorem st_5_66 : ldk 5 66 = none ∧ stk 5 66 = some 1 := by decide +kernel
theorem st_5_71 : ldk 5 71 = none ∧ stk 5 71 = some 2 := by decide +kernel
theorem st_5_76 : ldk 5 76 = none ∧ stk 5 76 = some 3 := by decide +kernel
theorem st_5_81 : ldk 5 81 = none ∧ stk 5 81 = some 4 := by decide +kernel
theorem st_5_86 : ldk 5 86 = none ∧ stk 5 86 = some 5 := by decide +kernel
theorem st_5_91 : ldk 5 91 = none ∧ stk 5 91 = some 6 := by decide +kernel
