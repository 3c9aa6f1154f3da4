/-! the law: what its bytes say (3) -/
def laD7 : List (Nat × Instr × Nat) := [(785, .iaload, 1), (786, .i2l, 1), (787, .bipush 32, 2), (789, .lshl, 1), (790, .aload_n 0, 1), (791, .iload_n 3, 1), (792, .iconst 4, 1), (793, .iadd, 1), (794, .iaload, 1), (795, .i2l, 1), (796, .ldc2_w 69, 3), (799, .land, 1), (800, .lor, 1), (801, .invokevirtual 80, 3), (804, .lcmp, 1), (805, .ifCond .eq 640, 3), (810, .aload_n 1, 1), (811, .aload_n 0, 1), (812, .iload_n 3, 1), (813, .iconst 1, 1), (814, .iadd, 1), (815, .iaload, 1), (816, .i2l, 1), (817, .bipush 32, 2), (819, .lshl, 1), (820, .aload_n 0, 1), (821, .iload_n 3, 1), (822, .iconst 2, 1), (823, .iadd, 1), (824, .iaload, 1), (825, .i2l, 1), (826, .ldc2_w 69, 3), (829, .land, 1), (830, .lor, 1), (831, .aload_n 0, 1), (832, .iload_n 3, 1), (833, .iconst 3, 1), (834, .iadd, 1), (835, .iaload, 1), (836, .invokevirtual 81, 3), (839, .aload_n 2, 1), (840, .aload_n 0, 1), (841, .iload_n 3, 1), (842, .iconst 1, 1), (843, .iadd, 1), (844, .iaload, 1), (845, .i2l, 1), (846, .bipush 32, 2), (848, .lshl, 1), (849, .aload_n 0, 1), (850, .iload_n 3, 1), (851, .iconst 2, 1), (852, .iadd, 1), (853, .iaload, 1), (854, .i2l, 1), (855, .ldc2_w 69, 3), (858, .land, 1), (859, .lor, 1), (860, .aload_n 0, 1), (861, .iload_n 3, 1), (862, .iconst 3, 1), (863, .iadd, 1), (864, .iaload, 1), (865, .invokevirtual 85, 3), (868, .if_icmp .eq 577, 3), (873, .aload_n 1, 1), (874, .aload_n 0, 1), (875, .iload_n 3, 1), (876, .iconst 1, 1), (877, .iadd, 1)]
theorem laD7_ok : (laD7.all fun q => decide (decode code q.1 = .ok (q.2.1, q.2.2))) = true := by decide +kernel
theorem zd_La_law_785 : decode code 785 = .ok (.iaload, 1) := laX laD7_ok (q := (785, .iaload, 1)) 0 rfl
theorem zd_La_law_786 : decode code 786 = .ok (.i2l, 1) := laX laD7_ok (q := (786, .i2l, 1)) 1 rfl
theorem zd_La_law_787 : decode code 787 = .ok (.bipush 32, 2) := laX laD7_ok (q := (787, .bipush 32, 2)) 2 rfl
theorem zd_La_law_789 : decode code 789 = .ok (.lshl, 1) := laX laD7_ok (q := (789, .lshl, 1)) 3 rfl
theorem zd_La_law_790 : decode code 790 = .ok (.aload_n 0, 1) := laX laD7_ok (q := (790, .aload_n 0, 1)) 4 rfl
theorem zd_La_law_791 : decode code 791 = .ok (.iload_n 3, 1) := laX laD7_ok (q := (791, .iload_n 3, 1)) 5 rfl
theorem zd_La_law_792 : decode code 792 = .ok (.iconst 4, 1) := laX laD7_ok (q := (792, .iconst 4, 1)) 6 rfl
theorem zd_La_law_793 : decode code 793 = .ok (.iadd, 1) := laX laD7_ok (q := (793, .iadd, 1)) 7 rfl
theorem zd_La_law_794 : decode code 794 = .ok (.iaload, 1) := laX laD7_ok (q := (794, .iaload, 1)) 8 rfl
theorem zd_La_law_795 : decode code 795 = .ok (.i2l, 1) := laX laD7_ok (q := (795, .i2l, 1)) 9 rfl
theorem zd_La_law_796 : decode code 796 = .ok (.ldc2_w 69, 3) := laX laD7_ok (q := (796, .ldc2_w 69, 3)) 10 rfl
theorem zd_La_law_799 : decode code 799 = .ok (.land, 1) := laX laD7_ok (q := (799, .land, 1)) 11 rfl
theorem zd_La_law_800 : decode code 800 = .ok (.lor, 1) := laX laD7_ok (q := (800, .lor, 1)) 12 rfl
theorem zd_La_law_801 : decode code 801 = .ok (.invokevirtual 80, 3) := laX laD7_ok (q := (801, .invokevirtual 80, 3)) 13 rfl
theorem zd_La_law_804 : decode code 804 = .ok (.lcmp, 1) := laX laD7_ok (q := (804, .lcmp, 1)) 14 rfl
theorem zd_La_law_805 : decode code 805 = .ok (.ifCond .eq 640, 3) := laX laD7_ok (q := (805, .ifCond .eq 640, 3)) 15 rfl
theorem zd_La_law_810 : decode code 810 = .ok (.aload_n 1, 1) := laX laD7_ok (q := (810, .aload_n 1, 1)) 16 rfl
theorem zd_La_law_811 : decode code 811 = .ok (.aload_n 0, 1) := laX laD7_ok (q := (811, .aload_n 0, 1)) 17 rfl
theorem zd_La_law_812 : decode code 812 = .ok (.iload_n 3, 1) := laX laD7_ok (q := (812, .iload_n 3, 1)) 18 rfl
theorem zd_La_law_813 : decode code 813 = .ok (.iconst 1, 1) := laX laD7_ok (q := (813, .iconst 1, 1)) 19 rfl
theorem zd_La_law_814 : decode code 814 = .ok (.iadd, 1) := laX laD7_ok (q := (814, .iadd, 1)) 20 rfl
theorem zd_La_law_815 : decode code 815 = .ok (.iaload, 1) := laX laD7_ok (q := (815, .iaload, 1)) 21 rfl
theorem zd_La_law_816 : decode code 816 = .ok (.i2l, 1) := laX laD7_ok (q := (816, .i2l, 1)) 22 rfl
theorem zd_La_law_817 : decode code 817 = .ok (.bipush 32, 2) := laX laD7_ok (q := (817, .bipush 32, 2)) 23 rfl
theorem zd_La_law_819 : decode code 819 = .ok (.lshl, 1) := laX laD7_ok (q := (819, .lshl, 1)) 24 rfl
theorem zd_La_law_820 : decode code 820 = .ok (.aload_n 0, 1) := laX laD7_ok (q := (820, .aload_n 0, 1)) 25 rfl
theorem zd_La_law_821 : decode code 821 = .ok (.iload_n 3, 1) := laX laD7_ok (q := (821, .iload_n 3, 1)) 26 rfl
theorem zd_La_law_822 : decode code 822 = .ok (.iconst 2, 1) := laX laD7_ok (q := (822, .iconst 2, 1)) 27 rfl
theorem zd_La_law_823 : decode code 823 = .ok (.iadd, 1) := laX laD7_ok (q := (823, .iadd, 1)) 28 rfl
theorem zd_La_law_824 : decode code 824 = .ok (.iaload, 1) := laX laD7_ok (q := (824, .iaload, 1)) 29 rfl
theorem zd_La_law_825 : decode code 825 = .ok (.i2l, 1) := laX laD7_ok (q := (825, .i2l, 1)) 30 rfl
theorem zd_La_law_826 : decode code 826 = .ok (.ldc2_w 69, 3) := laX laD7_ok (q := (826, .ldc2_w 69, 3)) 31 rfl
theorem zd_La_law_829 : decode code 829 = .ok (.land, 1) := laX laD7_ok (q := (829, .land, 1)) 32 rfl
theorem zd_La_law_830 : decode code 830 = .ok (.lor, 1) := laX laD7_ok (q := (830, .lor, 1)) 33 rfl
theorem zd_La_law_831 : decode code 831 = .ok (.aload_n 0, 1) := laX laD7_ok (q := (831, .aload_n 0, 1)) 34 rfl
theorem zd_La_law_832 : decode code 832 = .ok (.iload_n 3, 1) := laX laD7_ok (q := (832, .iload_n 3, 1)) 35 rfl
theorem zd_La_law_833 : decode code 833 = .ok (.iconst 3, 1) := laX laD7_ok (q := (833, .iconst 3, 1)) 36 rfl
theorem zd_La_law_834 : decode code 834 = .ok (.iadd, 1) := laX laD7_ok (q := (834, .iadd, 1)) 37 rfl
theorem zd_La_law_835 : decode code 835 = .ok (.iaload, 1) := laX laD7_ok (q := (835, .iaload, 1)) 38 rfl
theorem zd_La_law_836 : decode code 836 = .ok (.invokevirtual 81, 3) := laX laD7_ok (q := (836, .invokevirtual 81, 3)) 39 rfl
theorem zd_La_law_839 : decode code 839 = .ok (.aload_n 2, 1) := laX laD7_ok (q := (839, .aload_n 2, 1)) 40 rfl
theorem zd_La_law_840 : decode code 840 = .ok (.aload_n 0, 1) := laX laD7_ok (q := (840, .aload_n 0, 1)) 41 rfl
theorem zd_La_law_841 : decode code 841 = .ok (.iload_n 3, 1) := laX laD7_ok (q := (841, .iload_n 3, 1)) 42 rfl
theorem zd_La_law_842 : decode code 842 = .ok (.iconst 1, 1) := laX laD7_ok (q := (842, .iconst 1, 1)) 43 rfl
theorem zd_La_law_843 : decode code 843 = .ok (.iadd, 1) := laX laD7_ok (q := (843, .iadd, 1)) 44 rfl
theorem zd_La_law_844 : decode code 844 = .ok (.iaload, 1) := laX laD7_ok (q := (844, .iaload, 1)) 45 rfl
theorem zd_La_law_845 : decode code 845 = .ok (.i2l, 1) := laX laD7_ok (q := (845, .i2l, 1)) 46 rfl
theorem zd_La_law_846 : decode code 846 = .ok (.bipush 32, 2) := laX laD7_ok (q := (846, .bipush 32, 2)) 47 rfl
theorem zd_La_law_848 : decode code 848 = .ok (.lshl, 1) := laX laD7_ok (q := (848, .lshl, 1)) 48 rfl
theorem zd_La_law_849 : decode code 849 = .ok (.aload_n 0, 1) := laX laD7_ok (q := (849, .aload_n 0, 1)) 49 rfl
theorem zd_La_law_850 : decode code 850 = .ok (.iload_n 3, 1) := laX laD7_ok (q := (850, .iload_n 3, 1)) 50 rfl
theorem zd_La_law_851 : decode code 851 = .ok (.iconst 2, 1) := laX laD7_ok (q := (851, .iconst 2, 1)) 51 rfl
theorem zd_La_law_852 : decode code 852 = .ok (.iadd, 1) := laX laD7_ok (q := (852, .iadd, 1)) 52 rfl
theorem zd_La_law_853 : decode code 853 = .ok (.iaload, 1) := laX laD7_ok (q := (853, .iaload, 1)) 53 rfl
theorem zd_La_law_854 : decode code 854 = .ok (.i2l, 1) := laX laD7_ok (q := (854, .i2l, 1)) 54 rfl
theorem zd_La_law_855 : decode code 855 = .ok (.ldc2_w 69, 3) := laX laD7_ok (q := (855, .ldc2_w 69, 3)) 55 rfl
theorem zd_La_law_858 : decode code 858 = .ok (.land, 1) := laX laD7_ok (q := (858, .land, 1)) 56 rfl
theorem zd_La_law_859 : decode code 859 = .ok (.lor, 1) := laX laD7_ok (q := (859, .lor, 1)) 57 rfl
theorem zd_La_law_860 : decode code 860 = .ok (.aload_n 0, 1) := laX laD7_ok (q := (860, .aload_n 0, 1)) 58 rfl
theorem zd_La_law_861 : decode code 861 = .ok (.iload_n 3, 1) := laX laD7_ok (q := (861, .iload_n 3, 1)) 59 rfl
theorem zd_La_law_862 : decode code 862 = .ok (.iconst 3, 1) := laX laD7_ok (q := (862, .iconst 3, 1)) 60 rfl
theorem zd_La_law_863 : decode code 863 = .ok (.iadd, 1) := laX laD7_ok (q := (863, .iadd, 1)) 61 rfl
theorem zd_La_law_864 : decode code 864 = .ok (.iaload, 1) := laX laD7_ok (q := (864, .iaload, 1)) 62 rfl
theorem zd_La_law_865 : decode code 865 = .ok (.invokevirtual 85, 3) := laX laD7_ok (q := (865, .invokevirtual 85, 3)) 63 rfl
theorem zd_La_law_868 : decode code 868 = .ok (.if_icmp .eq 577, 3) := laX laD7_ok (q := (868, .if_icmp .eq 577, 3)) 64 rfl
theorem zd_La_law_873 : decode code 873 = .ok (.aload_n 1, 1) := laX laD7_ok (q := (873, .aload_n 1, 1)) 65 rfl
theorem zd_La_law_874 : decode code 874 = .ok (.aload_n 0, 1) := laX laD7_ok (q := (874, .aload_n 0, 1)) 66 rfl
theorem zd_La_law_875 : decode code 875 = .ok (.iload_n 3, 1) := laX laD7_ok (q := (875, .iload_n 3, 1)) 67 rfl
theorem zd_La_law_876 : decode code 876 = .ok (.iconst 1, 1) := laX laD7_ok (q := (876, .iconst 1, 1)) 68 rfl
theorem zd_La_law_877 : decode code 877 = .ok (.iadd, 1) := laX laD7_ok (q := (877, .iadd, 1)) 69 rfl
def laD8 : List (Nat × Instr × Nat) := [(878, .iaload, 1), (879, .invokevirtual 86, 3), (882, .aload_n 2, 1), (883, .aload_n 0, 1), (884, .iload_n 3, 1), (885, .iconst 1, 1), (886, .iadd, 1), (887, .iaload, 1), (888, .invokevirtual 90, 3), (891, .lcmp, 1), (892, .ifCond .eq 553, 3), (897, .aload_n 1, 1), (898, .aload_n 0, 1), (899, .iload_n 3, 1), (900, .iconst 1, 1), (901, .iadd, 1), (902, .iaload, 1), (903, .aload_n 0, 1), (904, .iload_n 3, 1), (905, .iconst 2, 1), (906, .iadd, 1), (907, .iaload, 1), (908, .invokevirtual 91, 3), (911, .aload_n 2, 1), (912, .aload_n 0, 1), (913, .iload_n 3, 1), (914, .iconst 1, 1), (915, .iadd, 1), (916, .iaload, 1), (917, .aload_n 0, 1), (918, .iload_n 3, 1), (919, .iconst 2, 1), (920, .iadd, 1), (921, .iaload, 1), (922, .invokevirtual 94, 3), (925, .if_icmp .eq 520, 3), (930, .aload_n 1, 1), (931, .aload_n 0, 1), (932, .iload_n 3, 1), (933, .iconst 1, 1), (934, .iadd, 1), (935, .iaload, 1), (936, .invokevirtual 95, 3), (939, .aload_n 2, 1), (940, .aload_n 0, 1), (941, .iload_n 3, 1), (942, .iconst 1, 1), (943, .iadd, 1), (944, .iaload, 1), (945, .invokevirtual 98, 3), (948, .lcmp, 1), (949, .ifCond .eq 496, 3), (954, .aload_n 1, 1), (955, .aload_n 0, 1), (956, .iload_n 3, 1), (957, .iconst 1, 1), (958, .iadd, 1), (959, .iaload, 1), (960, .invokevirtual 99, 3), (963, .aload_n 2, 1), (964, .aload_n 0, 1), (965, .iload_n 3, 1), (966, .iconst 1, 1), (967, .iadd, 1), (968, .iaload, 1), (969, .invokevirtual 102, 3), (972, .if_icmp .eq 473, 3), (977, .aload_n 1, 1), (978, .aload_n 0, 1), (979, .iload_n 3, 1)]
theorem laD8_ok : (laD8.all fun q => decide (decode code q.1 = .ok (q.2.1, q.2.2))) = true := by decide +kernel
theorem zd_La_law_878 : decode code 878 = .ok (.iaload, 1) := laX laD8_ok (q := (878, .iaload, 1)) 0 rfl
theorem zd_La_law_879 : decode code 879 = .ok (.invokevirtual 86, 3) := laX laD8_ok (q := (879, .invokevirtual 86, 3)) 1 rfl
theorem zd_La_law_882 : decode code 882 = .ok (.aload_n 2, 1) := laX laD8_ok (q := (882, .aload_n 2, 1)) 2 rfl
theorem zd_La_law_883 : decode code 883 = .ok (.aload_n 0, 1) := laX laD8_ok (q := (883, .aload_n 0, 1)) 3 rfl
theorem zd_La_law_884 : decode code 884 = .ok (.iload_n 3, 1) := laX laD8_ok (q := (884, .iload_n 3, 1)) 4 rfl
theorem zd_La_law_885 : decode code 885 = .ok (.iconst 1, 1) := laX laD8_ok (q := (885, .iconst 1, 1)) 5 rfl
theorem zd_La_law_886 : decode code 886 = .ok (.iadd, 1) := laX laD8_ok (q := (886, .iadd, 1)) 6 rfl
theorem zd_La_law_887 : decode code 887 = .ok (.iaload, 1) := laX laD8_ok (q := (887, .iaload, 1)) 7 rfl
theorem zd_La_law_888 : decode code 888 = .ok (.invokevirtual 90, 3) := laX laD8_ok (q := (888, .invokevirtual 90, 3)) 8 rfl
theorem zd_La_law_891 : decode code 891 = .ok (.lcmp, 1) := laX laD8_ok (q := (891, .lcmp, 1)) 9 rfl
theorem zd_La_law_892 : decode code 892 = .ok (.ifCond .eq 553, 3) := laX laD8_ok (q := (892, .ifCond .eq 553, 3)) 10 rfl
theorem zd_La_law_897 : decode code 897 = .ok (.aload_n 1, 1) := laX laD8_ok (q := (897, .aload_n 1, 1)) 11 rfl
theorem zd_La_law_898 : decode code 898 = .ok (.aload_n 0, 1) := laX laD8_ok (q := (898, .aload_n 0, 1)) 12 rfl
theorem zd_La_law_899 : decode code 899 = .ok (.iload_n 3, 1) := laX laD8_ok (q := (899, .iload_n 3, 1)) 13 rfl
theorem zd_La_law_900 : decode code 900 = .ok (.iconst 1, 1) := laX laD8_ok (q := (900, .iconst 1, 1)) 14 rfl
theorem zd_La_law_901 : decode code 901 = .ok (.iadd, 1) := laX laD8_ok (q := (901, .iadd, 1)) 15 rfl
theorem zd_La_law_902 : decode code 902 = .ok (.iaload, 1) := laX laD8_ok (q := (902, .iaload, 1)) 16 rfl
theorem zd_La_law_903 : decode code 903 = .ok (.aload_n 0, 1) := laX laD8_ok (q := (903, .aload_n 0, 1)) 17 rfl
theorem zd_La_law_904 : decode code 904 = .ok (.iload_n 3, 1) := laX laD8_ok (q := (904, .iload_n 3, 1)) 18 rfl
theorem zd_La_law_905 : decode code 905 = .ok (.iconst 2, 1) := laX laD8_ok (q := (905, .iconst 2, 1)) 19 rfl
theorem zd_La_law_906 : decode code 906 = .ok (.iadd, 1) := laX laD8_ok (q := (906, .iadd, 1)) 20 rfl
theorem zd_La_law_907 : decode code 907 = .ok (.iaload, 1) := laX laD8_ok (q := (907, .iaload, 1)) 21 rfl
theorem zd_La_law_908 : decode code 908 = .ok (.invokevirtual 91, 3) := laX laD8_ok (q := (908, .invokevirtual 91, 3)) 22 rfl
theorem zd_La_law_911 : decode code 911 = .ok (.aload_n 2, 1) := laX laD8_ok (q := (911, .aload_n 2, 1)) 23 rfl
theorem zd_La_law_912 : decode code 912 = .ok (.aload_n 0, 1) := laX laD8_ok (q := (912, .aload_n 0, 1)) 24 rfl
theorem zd_La_law_913 : decode code 913 = .ok (.iload_n 3, 1) := laX laD8_ok (q := (913, .iload_n 3, 1)) 25 rfl
theorem zd_La_law_914 : decode code 914 = .ok (.iconst 1, 1) := laX laD8_ok (q := (914, .iconst 1, 1)) 26 rfl
theorem zd_La_law_915 : decode code 915 = .ok (.iadd, 1) := laX laD8_ok (q := (915, .iadd, 1)) 27 rfl
theorem zd_La_law_916 : decode code 916 = .ok (.iaload, 1) := laX laD8_ok (q := (916, .iaload, 1)) 28 rfl
theorem zd_La_law_917 : decode code 917 = .ok (.aload_n 0, 1) := laX laD8_ok (q := (917, .aload_n 0, 1)) 29 rfl
theorem zd_La_law_918 : decode code 918 = .ok (.iload_n 3, 1) := laX laD8_ok (q := (918, .iload_n 3, 1)) 30 rfl
theorem zd_La_law_919 : decode code 919 = .ok (.iconst 2, 1) := laX laD8_ok (q := (919, .iconst 2, 1)) 31 rfl
theorem zd_La_law_920 : decode code 920 = .ok (.iadd, 1) := laX laD8_ok (q := (920, .iadd, 1)) 32 rfl
theorem zd_La_law_921 : decode code 921 = .ok (.iaload, 1) := laX laD8_ok (q := (921, .iaload, 1)) 33 rfl
theorem zd_La_law_922 : decode code 922 = .ok (.invokevirtual 94, 3) := laX laD8_ok (q := (922, .invokevirtual 94, 3)) 34 rfl
theorem zd_La_law_925 : decode code 925 = .ok (.if_icmp .eq 520, 3) := laX laD8_ok (q := (925, .if_icmp .eq 520, 3)) 35 rfl
theorem zd_La_law_930 : decode code 930 = .ok (.aload_n 1, 1) := laX laD8_ok (q := (930, .aload_n 1, 1)) 36 rfl
theorem zd_La_law_931 : decode code 931 = .ok (.aload_n 0, 1) := laX laD8_ok (q := (931, .aload_n 0, 1)) 37 rfl
theorem zd_La_law_932 : decode code 932 = .ok (.iload_n 3, 1) := laX laD8_ok (q := (932, .iload_n 3, 1)) 38 rfl
theorem zd_La_law_933 : decode code 933 = .ok (.iconst 1, 1) := laX laD8_ok (q := (933, .iconst 1, 1)) 39 rfl
theorem zd_La_law_934 : decode code 934 = .ok (.iadd, 1) := laX laD8_ok (q := (934, .iadd, 1)) 40 rfl
theorem zd_La_law_935 : decode code 935 = .ok (.iaload, 1) := laX laD8_ok (q := (935, .iaload, 1)) 41 rfl
theorem zd_La_law_936 : decode code 936 = .ok (.invokevirtual 95, 3) := laX laD8_ok (q := (936, .invokevirtual 95, 3)) 42 rfl
theorem zd_La_law_939 : decode code 939 = .ok (.aload_n 2, 1) := laX laD8_ok (q := (939, .aload_n 2, 1)) 43 rfl
theorem zd_La_law_940 : decode code 940 = .ok (.aload_n 0, 1) := laX laD8_ok (q := (940, .aload_n 0, 1)) 44 rfl
theorem zd_La_law_941 : decode code 941 = .ok (.iload_n 3, 1) := laX laD8_ok (q := (941, .iload_n 3, 1)) 45 rfl
theorem zd_La_law_942 : decode code 942 = .ok (.iconst 1, 1) := laX laD8_ok (q := (942, .iconst 1, 1)) 46 rfl
theorem zd_La_law_943 : decode code 943 = .ok (.iadd, 1) := laX laD8_ok (q := (943, .iadd, 1)) 47 rfl
theorem zd_La_law_944 : decode code 944 = .ok (.iaload, 1) := laX laD8_ok (q := (944, .iaload, 1)) 48 rfl
theorem zd_La_law_945 : decode code 945 = .ok (.invokevirtual 98, 3) := laX laD8_ok (q := (945, .invokevirtual 98, 3)) 49 rfl
theorem zd_La_law_948 : decode code 948 = .ok (.lcmp, 1) := laX laD8_ok (q := (948, .lcmp, 1)) 50 rfl
theorem zd_La_law_949 : decode code 949 = .ok (.ifCond .eq 496, 3) := laX laD8_ok (q := (949, .ifCond .eq 496, 3)) 51 rfl
theorem zd_La_law_954 : decode code 954 = .ok (.aload_n 1, 1) := laX laD8_ok (q := (954, .aload_n 1, 1)) 52 rfl
theorem zd_La_law_955 : decode code 955 = .ok (.aload_n 0, 1) := laX laD8_ok (q := (955, .aload_n 0, 1)) 53 rfl
theorem zd_La_law_956 : decode code 956 = .ok (.iload_n 3, 1) := laX laD8_ok (q := (956, .iload_n 3, 1)) 54 rfl
theorem zd_La_law_957 : decode code 957 = .ok (.iconst 1, 1) := laX laD8_ok (q := (957, .iconst 1, 1)) 55 rfl
theorem zd_La_law_958 : decode code 958 = .ok (.iadd, 1) := laX laD8_ok (q := (958, .iadd, 1)) 56 rfl
theorem zd_La_law_959 : decode code 959 = .ok (.iaload, 1) := laX laD8_ok (q := (959, .iaload, 1)) 57 rfl
theorem zd_La_law_960 : decode code 960 = .ok (.invokevirtual 99, 3) := laX laD8_ok (q := (960, .invokevirtual 99, 3)) 58 rfl
theorem zd_La_law_963 : decode code 963 = .ok (.aload_n 2, 1) := laX laD8_ok (q := (963, .aload_n 2, 1)) 59 rfl
theorem zd_La_law_964 : decode code 964 = .ok (.aload_n 0, 1) := laX laD8_ok (q := (964, .aload_n 0, 1)) 60 rfl
theorem zd_La_law_965 : decode code 965 = .ok (.iload_n 3, 1) := laX laD8_ok (q := (965, .iload_n 3, 1)) 61 rfl
theorem zd_La_law_966 : decode code 966 = .ok (.iconst 1, 1) := laX laD8_ok (q := (966, .iconst 1, 1)) 62 rfl
theorem zd_La_law_967 : decode code 967 = .ok (.iadd, 1) := laX laD8_ok (q := (967, .iadd, 1)) 63 rfl
theorem zd_La_law_968 : decode code 968 = .ok (.iaload, 1) := laX laD8_ok (q := (968, .iaload, 1)) 64 rfl
theorem zd_La_law_969 : decode code 969 = .ok (.invokevirtual 102, 3) := laX laD8_ok (q := (969, .invokevirtual 102, 3)) 65 rfl
theorem zd_La_law_972 : decode code 972 = .ok (.if_icmp .eq 473, 3) := laX laD8_ok (q := (972, .if_icmp .eq 473, 3)) 66 rfl
theorem zd_La_law_977 : decode code 977 = .ok (.aload_n 1, 1) := laX laD8_ok (q := (977, .aload_n 1, 1)) 67 rfl
theorem zd_La_law_978 : decode code 978 = .ok (.aload_n 0, 1) := laX laD8_ok (q := (978, .aload_n 0, 1)) 68 rfl
theorem zd_La_law_979 : decode code 979 = .ok (.iload_n 3, 1) := laX laD8_ok (q := (979, .iload_n 3, 1)) 69 rfl
def laD9 : List (Nat × Instr × Nat) := [(980, .iconst 1, 1), (981, .iadd, 1), (982, .iaload, 1), (983, .aload_n 0, 1), (984, .iload_n 3, 1), (985, .iconst 2, 1), (986, .iadd, 1), (987, .iaload, 1), (988, .aload_n 0, 1), (989, .iload_n 3, 1), (990, .iconst 3, 1), (991, .iadd, 1), (992, .iaload, 1), (993, .invokevirtual 103, 3), (996, .aload_n 2, 1), (997, .aload_n 0, 1), (998, .iload_n 3, 1), (999, .iconst 1, 1), (1000, .iadd, 1), (1001, .iaload, 1), (1002, .aload_n 0, 1), (1003, .iload_n 3, 1), (1004, .iconst 2, 1), (1005, .iadd, 1), (1006, .iaload, 1), (1007, .aload_n 0, 1), (1008, .iload_n 3, 1), (1009, .iconst 3, 1), (1010, .iadd, 1), (1011, .iaload, 1), (1012, .invokevirtual 106, 3), (1015, .lcmp, 1), (1016, .ifCond .eq 429, 3), (1021, .aload_n 1, 1), (1022, .aload_n 0, 1), (1023, .iload_n 3, 1), (1024, .iconst 1, 1), (1025, .iadd, 1), (1026, .iaload, 1), (1027, .aload_n 0, 1), (1028, .iload_n 3, 1), (1029, .iconst 2, 1), (1030, .iadd, 1), (1031, .iaload, 1), (1032, .aload_n 0, 1), (1033, .iload_n 3, 1), (1034, .iconst 3, 1), (1035, .iadd, 1), (1036, .iaload, 1), (1037, .invokevirtual 107, 3), (1040, .aload_n 2, 1), (1041, .aload_n 0, 1), (1042, .iload_n 3, 1), (1043, .iconst 1, 1), (1044, .iadd, 1), (1045, .iaload, 1), (1046, .aload_n 0, 1), (1047, .iload_n 3, 1), (1048, .iconst 2, 1), (1049, .iadd, 1), (1050, .iaload, 1), (1051, .aload_n 0, 1), (1052, .iload_n 3, 1), (1053, .iconst 3, 1), (1054, .iadd, 1), (1055, .iaload, 1), (1056, .invokevirtual 110, 3), (1059, .lcmp, 1), (1060, .ifCond .eq 385, 3), (1065, .aload_n 1, 1)]
theorem laD9_ok : (laD9.all fun q => decide (decode code q.1 = .ok (q.2.1, q.2.2))) = true := by decide +kernel
theorem zd_La_law_980 : decode code 980 = .ok (.iconst 1, 1) := laX laD9_ok (q := (980, .iconst 1, 1)) 0 rfl
theorem zd_La_law_981 : decode code 981 = .ok (.iadd, 1) := laX laD9_ok (q := (981, .iadd, 1)) 1 rfl
theorem zd_La_law_982 : decode code 982 = .ok (.iaload, 1) := laX laD9_ok (q := (982, .iaload, 1)) 2 rfl
theorem zd_La_law_983 : decode code 983 = .ok (.aload_n 0, 1) := laX laD9_ok (q := (983, .aload_n 0, 1)) 3 rfl
theorem zd_La_law_984 : decode code 984 = .ok (.iload_n 3, 1) := laX laD9_ok (q := (984, .iload_n 3, 1)) 4 rfl
theorem zd_La_law_985 : decode code 985 = .ok (.iconst 2, 1) := laX laD9_ok (q := (985, .iconst 2, 1)) 5 rfl
theorem zd_La_law_986 : decode code 986 = .ok (.iadd, 1) := laX laD9_ok (q := (986, .iadd, 1)) 6 rfl
theorem zd_La_law_987 : decode code 987 = .ok (.iaload, 1) := laX laD9_ok (q := (987, .iaload, 1)) 7 rfl
theorem zd_La_law_988 : decode code 988 = .ok (.aload_n 0, 1) := laX laD9_ok (q := (988, .aload_n 0, 1)) 8 rfl
theorem zd_La_law_989 : decode code 989 = .ok (.iload_n 3, 1) := laX laD9_ok (q := (989, .iload_n 3, 1)) 9 rfl
theorem zd_La_law_990 : decode code 990 = .ok (.iconst 3, 1) := laX laD9_ok (q := (990, .iconst 3, 1)) 10 rfl
theorem zd_La_law_991 : decode code 991 = .ok (.iadd, 1) := laX laD9_ok (q := (991, .iadd, 1)) 11 rfl
theorem zd_La_law_992 : decode code 992 = .ok (.iaload, 1) := laX laD9_ok (q := (992, .iaload, 1)) 12 rfl
theorem zd_La_law_993 : decode code 993 = .ok (.invokevirtual 103, 3) := laX laD9_ok (q := (993, .invokevirtual 103, 3)) 13 rfl
theorem zd_La_law_996 : decode code 996 = .ok (.aload_n 2, 1) := laX laD9_ok (q := (996, .aload_n 2, 1)) 14 rfl
theorem zd_La_law_997 : decode code 997 = .ok (.aload_n 0, 1) := laX laD9_ok (q := (997, .aload_n 0, 1)) 15 rfl
theorem zd_La_law_998 : decode code 998 = .ok (.iload_n 3, 1) := laX laD9_ok (q := (998, .iload_n 3, 1)) 16 rfl
theorem zd_La_law_999 : decode code 999 = .ok (.iconst 1, 1) := laX laD9_ok (q := (999, .iconst 1, 1)) 17 rfl
theorem zd_La_law_1000 : decode code 1000 = .ok (.iadd, 1) := laX laD9_ok (q := (1000, .iadd, 1)) 18 rfl
theorem zd_La_law_1001 : decode code 1001 = .ok (.iaload, 1) := laX laD9_ok (q := (1001, .iaload, 1)) 19 rfl
theorem zd_La_law_1002 : decode code 1002 = .ok (.aload_n 0, 1) := laX laD9_ok (q := (1002, .aload_n 0, 1)) 20 rfl
theorem zd_La_law_1003 : decode code 1003 = .ok (.iload_n 3, 1) := laX laD9_ok (q := (1003, .iload_n 3, 1)) 21 rfl
theorem zd_La_law_1004 : decode code 1004 = .ok (.iconst 2, 1) := laX laD9_ok (q := (1004, .iconst 2, 1)) 22 rfl
theorem zd_La_law_1005 : decode code 1005 = .ok (.iadd, 1) := laX laD9_ok (q := (1005, .iadd, 1)) 23 rfl
theorem zd_La_law_1006 : decode code 1006 = .ok (.iaload, 1) := laX laD9_ok (q := (1006, .iaload, 1)) 24 rfl
theorem zd_La_law_1007 : decode code 1007 = .ok (.aload_n 0, 1) := laX laD9_ok (q := (1007, .aload_n 0, 1)) 25 rfl
theorem zd_La_law_1008 : decode code 1008 = .ok (.iload_n 3, 1) := laX laD9_ok (q := (1008, .iload_n 3, 1)) 26 rfl
theorem zd_La_law_1009 : decode code 1009 = .ok (.iconst 3, 1) := laX laD9_ok (q := (1009, .iconst 3, 1)) 27 rfl
theorem zd_La_law_1010 : decode code 1010 = .ok (.iadd, 1) := laX laD9_ok (q := (1010, .iadd, 1)) 28 rfl
theorem zd_La_law_1011 : decode code 1011 = .ok (.iaload, 1) := laX laD9_ok (q := (1011, .iaload, 1)) 29 rfl
theorem zd_La_law_1012 : decode code 1012 = .ok (.invokevirtual 106, 3) := laX laD9_ok (q := (1012, .invokevirtual 106, 3)) 30 rfl
theorem zd_La_law_1015 : decode code 1015 = .ok (.lcmp, 1) := laX laD9_ok (q := (1015, .lcmp, 1)) 31 rfl
theorem zd_La_law_1016 : decode code 1016 = .ok (.ifCond .eq 429, 3) := laX laD9_ok (q := (1016, .ifCond .eq 429, 3)) 32 rfl
theorem zd_La_law_1021 : decode code 1021 = .ok (.aload_n 1, 1) := laX laD9_ok (q := (1021, .aload_n 1, 1)) 33 rfl
theorem zd_La_law_1022 : decode code 1022 = .ok (.aload_n 0, 1) := laX laD9_ok (q := (1022, .aload_n 0, 1)) 34 rfl
theorem zd_La_law_1023 : decode code 1023 = .ok (.iload_n 3, 1) := laX laD9_ok (q := (1023, .iload_n 3, 1)) 35 rfl
theorem zd_La_law_1024 : decode code 1024 = .ok (.iconst 1, 1) := laX laD9_ok (q := (1024, .iconst 1, 1)) 36 rfl
theorem zd_La_law_1025 : decode code 1025 = .ok (.iadd, 1) := laX laD9_ok (q := (1025, .iadd, 1)) 37 rfl
theorem zd_La_law_1026 : decode code 1026 = .ok (.iaload, 1) := laX laD9_ok (q := (1026, .iaload, 1)) 38 rfl
theorem zd_La_law_1027 : decode code 1027 = .ok (.aload_n 0, 1) := laX laD9_ok (q := (1027, .aload_n 0, 1)) 39 rfl
theorem zd_La_law_1028 : decode code 1028 = .ok (.iload_n 3, 1) := laX laD9_ok (q := (1028, .iload_n 3, 1)) 40 rfl
theorem zd_La_law_1029 : decode code 1029 = .ok (.iconst 2, 1) := laX laD9_ok (q := (1029, .iconst 2, 1)) 41 rfl
theorem zd_La_law_1030 : decode code 1030 = .ok (.iadd, 1) := laX laD9_ok (q := (1030, .iadd, 1)) 42 rfl
theorem zd_La_law_1031 : decode code 1031 = .ok (.iaload, 1) := laX laD9_ok (q := (1031, .iaload, 1)) 43 rfl
theorem zd_La_law_1032 : decode code 1032 = .ok (.aload_n 0, 1) := laX laD9_ok (q := (1032, .aload_n 0, 1)) 44 rfl
theorem zd_La_law_1033 : decode code 1033 = .ok (.iload_n 3, 1) := laX laD9_ok (q := (1033, .iload_n 3, 1)) 45 rfl
theorem zd_La_law_1034 : decode code 1034 = .ok (.iconst 3, 1) := laX laD9_ok (q := (1034, .iconst 3, 1)) 46 rfl
theorem zd_La_law_1035 : decode code 1035 = .ok (.iadd, 1) := laX laD9_ok (q := (1035, .iadd, 1)) 47 rfl
theorem zd_La_law_1036 : decode code 1036 = .ok (.iaload, 1) := laX laD9_ok (q := (1036, .iaload, 1)) 48 rfl
theorem zd_La_law_1037 : decode code 1037 = .ok (.invokevirtual 107, 3) := laX laD9_ok (q := (1037, .invokevirtual 107, 3)) 49 rfl
theorem zd_La_law_1040 : decode code 1040 = .ok (.aload_n 2, 1) := laX laD9_ok (q := (1040, .aload_n 2, 1)) 50 rfl
theorem zd_La_law_1041 : decode code 1041 = .ok (.aload_n 0, 1) := laX laD9_ok (q := (1041, .aload_n 0, 1)) 51 rfl
theorem zd_La_law_1042 : decode code 1042 = .ok (.iload_n 3, 1) := laX laD9_ok (q := (1042, .iload_n 3, 1)) 52 rfl
theorem zd_La_law_1043 : decode code 1043 = .ok (.iconst 1, 1) := laX laD9_ok (q := (1043, .iconst 1, 1)) 53 rfl
theorem zd_La_law_1044 : decode code 1044 = .ok (.iadd, 1) := laX laD9_ok (q := (1044, .iadd, 1)) 54 rfl
theorem zd_La_law_1045 : decode code 1045 = .ok (.iaload, 1) := laX laD9_ok (q := (1045, .iaload, 1)) 55 rfl
theorem zd_La_law_1046 : decode code 1046 = .ok (.aload_n 0, 1) := laX laD9_ok (q := (1046, .aload_n 0, 1)) 56 rfl
theorem zd_La_law_1047 : decode code 1047 = .ok (.iload_n 3, 1) := laX laD9_ok (q := (1047, .iload_n 3, 1)) 57 rfl
theorem zd_La_law_1048 : decode code 1048 = .ok (.iconst 2, 1) := laX laD9_ok (q := (1048, .iconst 2, 1)) 58 rfl
theorem zd_La_law_1049 : decode code 1049 = .ok (.iadd, 1) := laX laD9_ok (q := (1049, .iadd, 1)) 59 rfl
theorem zd_La_law_1050 : decode code 1050 = .ok (.iaload, 1) := laX laD9_ok (q := (1050, .iaload, 1)) 60 rfl
theorem zd_La_law_1051 : decode code 1051 = .ok (.aload_n 0, 1) := laX laD9_ok (q := (1051, .aload_n 0, 1)) 61 rfl
theorem zd_La_law_1052 : decode code 1052 = .ok (.iload_n 3, 1) := laX laD9_ok (q := (1052, .iload_n 3, 1)) 62 rfl
theorem zd_La_law_1053 : decode code 1053 = .ok (.iconst 3, 1) := laX laD9_ok (q := (1053, .iconst 3, 1)) 63 rfl
theorem zd_La_law_1054 : decode code 1054 = .ok (.iadd, 1) := laX laD9_ok (q := (1054, .iadd, 1)) 64 rfl
theorem zd_La_law_1055 : decode code 1055 = .ok (.iaload, 1) := laX laD9_ok (q := (1055, .iaload, 1)) 65 rfl
theorem zd_La_law_1056 : decode code 1056 = .ok (.invokevirtual 110, 3) := laX laD9_ok (q := (1056, .invokevirtual 110, 3)) 66 rfl
theorem zd_La_law_1059 : decode code 1059 = .ok (.lcmp, 1) := laX laD9_ok (q := (1059, .lcmp, 1)) 67 rfl
theorem zd_La_law_1060 : decode code 1060 = .ok (.ifCond .eq 385, 3) := laX laD9_ok (q := (1060, .ifCond .eq 385, 3)) 68 rfl
theorem zd_La_law_1065 : decode code 1065 = .ok (.aload_n 1, 1) := laX laD9_ok (q := (1065, .aload_n 1, 1)) 69 rfl
def laD10 : List (Nat × Instr × Nat) := [(1066, .invokevirtual 111, 3), (1069, .aload_n 2, 1), (1070, .invokevirtual 115, 3), (1073, .if_icmp .eq 372, 3), (1078, .aload_n 1, 1), (1079, .aload_n 0, 1), (1080, .iload_n 3, 1), (1081, .iconst 1, 1), (1082, .iadd, 1), (1083, .iaload, 1), (1084, .invokevirtual 116, 3), (1087, .aload_n 2, 1), (1088, .aload_n 0, 1), (1089, .iload_n 3, 1), (1090, .iconst 1, 1), (1091, .iadd, 1), (1092, .iaload, 1), (1093, .invokevirtual 119, 3), (1096, .if_icmp .eq 349, 3), (1101, .aload_n 1, 1), (1102, .invokevirtual 120, 3), (1105, .aload_n 2, 1), (1106, .invokevirtual 123, 3), (1109, .if_icmp .eq 336, 3), (1114, .aload_n 1, 1), (1115, .aload_n 0, 1), (1116, .iload_n 3, 1), (1117, .iconst 1, 1), (1118, .iadd, 1), (1119, .iaload, 1), (1120, .aload_n 0, 1), (1121, .iload_n 3, 1), (1122, .iconst 2, 1), (1123, .iadd, 1), (1124, .iaload, 1), (1125, .invokevirtual 124, 3), (1128, .aload_n 2, 1), (1129, .aload_n 0, 1), (1130, .iload_n 3, 1), (1131, .iconst 1, 1), (1132, .iadd, 1), (1133, .iaload, 1), (1134, .aload_n 0, 1), (1135, .iload_n 3, 1), (1136, .iconst 2, 1), (1137, .iadd, 1), (1138, .iaload, 1), (1139, .invokevirtual 127, 3), (1142, .if_icmp .eq 303, 3), (1147, .aload_n 1, 1), (1148, .aload_n 0, 1), (1149, .iload_n 3, 1), (1150, .iconst 1, 1), (1151, .iadd, 1), (1152, .iaload, 1), (1153, .aload_n 0, 1), (1154, .iload_n 3, 1), (1155, .iconst 2, 1), (1156, .iadd, 1), (1157, .iaload, 1), (1158, .invokevirtual 128, 3), (1161, .aload_n 2, 1), (1162, .aload_n 0, 1), (1163, .iload_n 3, 1), (1164, .iconst 1, 1), (1165, .iadd, 1), (1166, .iaload, 1), (1167, .aload_n 0, 1), (1168, .iload_n 3, 1), (1169, .iconst 2, 1)]
theorem laD10_ok : (laD10.all fun q => decide (decode code q.1 = .ok (q.2.1, q.2.2))) = true := by decide +kernel
theorem zd_La_law_1066 : decode code 1066 = .ok (.invokevirtual 111, 3) := laX laD10_ok (q := (1066, .invokevirtual 111, 3)) 0 rfl
theorem zd_La_law_1069 : decode code 1069 = .ok (.aload_n 2, 1) := laX laD10_ok (q := (1069, .aload_n 2, 1)) 1 rfl
theorem zd_La_law_1070 : decode code 1070 = .ok (.invokevirtual 115, 3) := laX laD10_ok (q := (1070, .invokevirtual 115, 3)) 2 rfl
theorem zd_La_law_1073 : decode code 1073 = .ok (.if_icmp .eq 372, 3) := laX laD10_ok (q := (1073, .if_icmp .eq 372, 3)) 3 rfl
theorem zd_La_law_1078 : decode code 1078 = .ok (.aload_n 1, 1) := laX laD10_ok (q := (1078, .aload_n 1, 1)) 4 rfl
theorem zd_La_law_1079 : decode code 1079 = .ok (.aload_n 0, 1) := laX laD10_ok (q := (1079, .aload_n 0, 1)) 5 rfl
theorem zd_La_law_1080 : decode code 1080 = .ok (.iload_n 3, 1) := laX laD10_ok (q := (1080, .iload_n 3, 1)) 6 rfl
theorem zd_La_law_1081 : decode code 1081 = .ok (.iconst 1, 1) := laX laD10_ok (q := (1081, .iconst 1, 1)) 7 rfl
theorem zd_La_law_1082 : decode code 1082 = .ok (.iadd, 1) := laX laD10_ok (q := (1082, .iadd, 1)) 8 rfl
theorem zd_La_law_1083 : decode code 1083 = .ok (.iaload, 1) := laX laD10_ok (q := (1083, .iaload, 1)) 9 rfl
theorem zd_La_law_1084 : decode code 1084 = .ok (.invokevirtual 116, 3) := laX laD10_ok (q := (1084, .invokevirtual 116, 3)) 10 rfl
theorem zd_La_law_1087 : decode code 1087 = .ok (.aload_n 2, 1) := laX laD10_ok (q := (1087, .aload_n 2, 1)) 11 rfl
theorem zd_La_law_1088 : decode code 1088 = .ok (.aload_n 0, 1) := laX laD10_ok (q := (1088, .aload_n 0, 1)) 12 rfl
theorem zd_La_law_1089 : decode code 1089 = .ok (.iload_n 3, 1) := laX laD10_ok (q := (1089, .iload_n 3, 1)) 13 rfl
theorem zd_La_law_1090 : decode code 1090 = .ok (.iconst 1, 1) := laX laD10_ok (q := (1090, .iconst 1, 1)) 14 rfl
theorem zd_La_law_1091 : decode code 1091 = .ok (.iadd, 1) := laX laD10_ok (q := (1091, .iadd, 1)) 15 rfl
theorem zd_La_law_1092 : decode code 1092 = .ok (.iaload, 1) := laX laD10_ok (q := (1092, .iaload, 1)) 16 rfl
theorem zd_La_law_1093 : decode code 1093 = .ok (.invokevirtual 119, 3) := laX laD10_ok (q := (1093, .invokevirtual 119, 3)) 17 rfl
theorem zd_La_law_1096 : decode code 1096 = .ok (.if_icmp .eq 349, 3) := laX laD10_ok (q := (1096, .if_icmp .eq 349, 3)) 18 rfl
theorem zd_La_law_1101 : decode code 1101 = .ok (.aload_n 1, 1) := laX laD10_ok (q := (1101, .aload_n 1, 1)) 19 rfl
theorem zd_La_law_1102 : decode code 1102 = .ok (.invokevirtual 120, 3) := laX laD10_ok (q := (1102, .invokevirtual 120, 3)) 20 rfl
theorem zd_La_law_1105 : decode code 1105 = .ok (.aload_n 2, 1) := laX laD10_ok (q := (1105, .aload_n 2, 1)) 21 rfl
theorem zd_La_law_1106 : decode code 1106 = .ok (.invokevirtual 123, 3) := laX laD10_ok (q := (1106, .invokevirtual 123, 3)) 22 rfl
theorem zd_La_law_1109 : decode code 1109 = .ok (.if_icmp .eq 336, 3) := laX laD10_ok (q := (1109, .if_icmp .eq 336, 3)) 23 rfl
theorem zd_La_law_1114 : decode code 1114 = .ok (.aload_n 1, 1) := laX laD10_ok (q := (1114, .aload_n 1, 1)) 24 rfl
theorem zd_La_law_1115 : decode code 1115 = .ok (.aload_n 0, 1) := laX laD10_ok (q := (1115, .aload_n 0, 1)) 25 rfl
theorem zd_La_law_1116 : decode code 1116 = .ok (.iload_n 3, 1) := laX laD10_ok (q := (1116, .iload_n 3, 1)) 26 rfl
theorem zd_La_law_1117 : decode code 1117 = .ok (.iconst 1, 1) := laX laD10_ok (q := (1117, .iconst 1, 1)) 27 rfl
theorem zd_La_law_1118 : decode code 1118 = .ok (.iadd, 1) := laX laD10_ok (q := (1118, .iadd, 1)) 28 rfl
theorem zd_La_law_1119 : decode code 1119 = .ok (.iaload, 1) := laX laD10_ok (q := (1119, .iaload, 1)) 29 rfl
theorem zd_La_law_1120 : decode code 1120 = .ok (.aload_n 0, 1) := laX laD10_ok (q := (1120, .aload_n 0, 1)) 30 rfl
theorem zd_La_law_1121 : decode code 1121 = .ok (.iload_n 3, 1) := laX laD10_ok (q := (1121, .iload_n 3, 1)) 31 rfl
theorem zd_La_law_1122 : decode code 1122 = .ok (.iconst 2, 1) := laX laD10_ok (q := (1122, .iconst 2, 1)) 32 rfl
theorem zd_La_law_1123 : decode code 1123 = .ok (.iadd, 1) := laX laD10_ok (q := (1123, .iadd, 1)) 33 rfl
theorem zd_La_law_1124 : decode code 1124 = .ok (.iaload, 1) := laX laD10_ok (q := (1124, .iaload, 1)) 34 rfl
theorem zd_La_law_1125 : decode code 1125 = .ok (.invokevirtual 124, 3) := laX laD10_ok (q := (1125, .invokevirtual 124, 3)) 35 rfl
theorem zd_La_law_1128 : decode code 1128 = .ok (.aload_n 2, 1) := laX laD10_ok (q := (1128, .aload_n 2, 1)) 36 rfl
theorem zd_La_law_1129 : decode code 1129 = .ok (.aload_n 0, 1) := laX laD10_ok (q := (1129, .aload_n 0, 1)) 37 rfl
theorem zd_La_law_1130 : decode code 1130 = .ok (.iload_n 3, 1) := laX laD10_ok (q := (1130, .iload_n 3, 1)) 38 rfl
theorem zd_La_law_1131 : decode code 1131 = .ok (.iconst 1, 1) := laX laD10_ok (q := (1131, .iconst 1, 1)) 39 rfl
theorem zd_La_law_1132 : decode code 1132 = .ok (.iadd, 1) := laX laD10_ok (q := (1132, .iadd, 1)) 40 rfl
theorem zd_La_law_1133 : decode code 1133 = .ok (.iaload, 1) := laX laD10_ok (q := (1133, .iaload, 1)) 41 rfl
theorem zd_La_law_1134 : decode code 1134 = .ok (.aload_n 0, 1) := laX laD10_ok (q := (1134, .aload_n 0, 1)) 42 rfl
theorem zd_La_law_1135 : decode code 1135 = .ok (.iload_n 3, 1) := laX laD10_ok (q := (1135, .iload_n 3, 1)) 43 rfl
theorem zd_La_law_1136 : decode code 1136 = .ok (.iconst 2, 1) := laX laD10_ok (q := (1136, .iconst 2, 1)) 44 rfl
theorem zd_La_law_1137 : decode code 1137 = .ok (.iadd, 1) := laX laD10_ok (q := (1137, .iadd, 1)) 45 rfl
theorem zd_La_law_1138 : decode code 1138 = .ok (.iaload, 1) := laX laD10_ok (q := (1138, .iaload, 1)) 46 rfl
theorem zd_La_law_1139 : decode code 1139 = .ok (.invokevirtual 127, 3) := laX laD10_ok (q := (1139, .invokevirtual 127, 3)) 47 rfl
theorem zd_La_law_1142 : decode code 1142 = .ok (.if_icmp .eq 303, 3) := laX laD10_ok (q := (1142, .if_icmp .eq 303, 3)) 48 rfl
theorem zd_La_law_1147 : decode code 1147 = .ok (.aload_n 1, 1) := laX laD10_ok (q := (1147, .aload_n 1, 1)) 49 rfl
theorem zd_La_law_1148 : decode code 1148 = .ok (.aload_n 0, 1) := laX laD10_ok (q := (1148, .aload_n 0, 1)) 50 rfl
theorem zd_La_law_1149 : decode code 1149 = .ok (.iload_n 3, 1) := laX laD10_ok (q := (1149, .iload_n 3, 1)) 51 rfl
theorem zd_La_law_1150 : decode code 1150 = .ok (.iconst 1, 1) := laX laD10_ok (q := (1150, .iconst 1, 1)) 52 rfl
theorem zd_La_law_1151 : decode code 1151 = .ok (.iadd, 1) := laX laD10_ok (q := (1151, .iadd, 1)) 53 rfl
theorem zd_La_law_1152 : decode code 1152 = .ok (.iaload, 1) := laX laD10_ok (q := (1152, .iaload, 1)) 54 rfl
theorem zd_La_law_1153 : decode code 1153 = .ok (.aload_n 0, 1) := laX laD10_ok (q := (1153, .aload_n 0, 1)) 55 rfl
theorem zd_La_law_1154 : decode code 1154 = .ok (.iload_n 3, 1) := laX laD10_ok (q := (1154, .iload_n 3, 1)) 56 rfl
theorem zd_La_law_1155 : decode code 1155 = .ok (.iconst 2, 1) := laX laD10_ok (q := (1155, .iconst 2, 1)) 57 rfl
theorem zd_La_law_1156 : decode code 1156 = .ok (.iadd, 1) := laX laD10_ok (q := (1156, .iadd, 1)) 58 rfl
theorem zd_La_law_1157 : decode code 1157 = .ok (.iaload, 1) := laX laD10_ok (q := (1157, .iaload, 1)) 59 rfl
theorem zd_La_law_1158 : decode code 1158 = .ok (.invokevirtual 128, 3) := laX laD10_ok (q := (1158, .invokevirtual 128, 3)) 60 rfl
theorem zd_La_law_1161 : decode code 1161 = .ok (.aload_n 2, 1) := laX laD10_ok (q := (1161, .aload_n 2, 1)) 61 rfl
theorem zd_La_law_1162 : decode code 1162 = .ok (.aload_n 0, 1) := laX laD10_ok (q := (1162, .aload_n 0, 1)) 62 rfl
theorem zd_La_law_1163 : decode code 1163 = .ok (.iload_n 3, 1) := laX laD10_ok (q := (1163, .iload_n 3, 1)) 63 rfl
theorem zd_La_law_1164 : decode code 1164 = .ok (.iconst 1, 1) := laX laD10_ok (q := (1164, .iconst 1, 1)) 64 rfl
theorem zd_La_law_1165 : decode code 1165 = .ok (.iadd, 1) := laX laD10_ok (q := (1165, .iadd, 1)) 65 rfl
theorem zd_La_law_1166 : decode code 1166 = .ok (.iaload, 1) := laX laD10_ok (q := (1166, .iaload, 1)) 66 rfl
theorem zd_La_law_1167 : decode code 1167 = .ok (.aload_n 0, 1) := laX laD10_ok (q := (1167, .aload_n 0, 1)) 67 rfl
theorem zd_La_law_1168 : decode code 1168 = .ok (.iload_n 3, 1) := laX laD10_ok (q := (1168, .iload_n 3, 1)) 68 rfl
theorem zd_La_law_1169 : decode code 1169 = .ok (.iconst 2, 1) := laX laD10_ok (q := (1169, .iconst 2, 1)) 69 rfl
