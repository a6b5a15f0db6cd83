-- the law, its loop (4)
theorem dd_121_842 : decode (am_b 121) 842 = .ok (.invokevirtual 119, 3) := by decide +kernel
theorem dd_121_845 : decode (am_b 121) 845 = .ok (.if_icmp .eq 315, 3) := by decide +kernel
theorem dd_121_848 : decode (am_b 121) 848 = .ok (.iconst 0, 1) := by decide +kernel
theorem dd_121_849 : decode (am_b 121) 849 = .ok (.ireturn, 1) := by decide +kernel
theorem dd_121_850 : decode (am_b 121) 850 = .ok (.aload_n 1, 1) := by decide +kernel
theorem dd_121_851 : decode (am_b 121) 851 = .ok (.aload_n 0, 1) := by decide +kernel
theorem dd_121_852 : decode (am_b 121) 852 = .ok (.iload 4, 2) := by decide +kernel
theorem dd_121_854 : decode (am_b 121) 854 = .ok (.iconst 1, 1) := by decide +kernel
theorem dd_121_855 : decode (am_b 121) 855 = .ok (.iadd, 1) := by decide +kernel
theorem dd_121_856 : decode (am_b 121) 856 = .ok (.iaload, 1) := by decide +kernel
theorem dd_121_857 : decode (am_b 121) 857 = .ok (.aload_n 0, 1) := by decide +kernel
theorem dd_121_858 : decode (am_b 121) 858 = .ok (.iload 4, 2) := by decide +kernel
theorem dd_121_860 : decode (am_b 121) 860 = .ok (.iconst 2, 1) := by decide +kernel
theorem dd_121_861 : decode (am_b 121) 861 = .ok (.iadd, 1) := by decide +kernel
theorem dd_121_862 : decode (am_b 121) 862 = .ok (.iaload, 1) := by decide +kernel
theorem dd_121_863 : decode (am_b 121) 863 = .ok (.aload_n 0, 1) := by decide +kernel
theorem dd_121_864 : decode (am_b 121) 864 = .ok (.iload 4, 2) := by decide +kernel
theorem dd_121_866 : decode (am_b 121) 866 = .ok (.iconst 3, 1) := by decide +kernel
theorem dd_121_867 : decode (am_b 121) 867 = .ok (.iadd, 1) := by decide +kernel
theorem dd_121_868 : decode (am_b 121) 868 = .ok (.iaload, 1) := by decide +kernel
theorem dd_121_869 : decode (am_b 121) 869 = .ok (.aload_n 3, 1) := by decide +kernel
theorem dd_121_870 : decode (am_b 121) 870 = .ok (.invokestatic 120, 3) := by decide +kernel
theorem dd_121_873 : decode (am_b 121) 873 = .ok (.istore 5, 2) := by decide +kernel
theorem dd_121_875 : decode (am_b 121) 875 = .ok (.aload_n 2, 1) := by decide +kernel
theorem dd_121_876 : decode (am_b 121) 876 = .ok (.aload_n 0, 1) := by decide +kernel
theorem dd_121_877 : decode (am_b 121) 877 = .ok (.iload 4, 2) := by decide +kernel
theorem dd_121_879 : decode (am_b 121) 879 = .ok (.iconst 1, 1) := by decide +kernel
theorem dd_121_880 : decode (am_b 121) 880 = .ok (.iadd, 1) := by decide +kernel
theorem dd_121_881 : decode (am_b 121) 881 = .ok (.iaload, 1) := by decide +kernel
theorem dd_121_882 : decode (am_b 121) 882 = .ok (.aload_n 0, 1) := by decide +kernel
theorem dd_121_883 : decode (am_b 121) 883 = .ok (.iload 4, 2) := by decide +kernel
theorem dd_121_885 : decode (am_b 121) 885 = .ok (.iconst 2, 1) := by decide +kernel
theorem dd_121_886 : decode (am_b 121) 886 = .ok (.iadd, 1) := by decide +kernel
theorem dd_121_887 : decode (am_b 121) 887 = .ok (.iaload, 1) := by decide +kernel
theorem dd_121_888 : decode (am_b 121) 888 = .ok (.aload_n 0, 1) := by decide +kernel
theorem dd_121_889 : decode (am_b 121) 889 = .ok (.iload 4, 2) := by decide +kernel
theorem dd_121_891 : decode (am_b 121) 891 = .ok (.iconst 3, 1) := by decide +kernel
theorem dd_121_892 : decode (am_b 121) 892 = .ok (.iadd, 1) := by decide +kernel
theorem dd_121_893 : decode (am_b 121) 893 = .ok (.iaload, 1) := by decide +kernel
theorem dd_121_894 : decode (am_b 121) 894 = .ok (.invokevirtual 122, 3) := by decide +kernel
theorem dd_121_897 : decode (am_b 121) 897 = .ok (.istore 6, 2) := by decide +kernel
theorem dd_121_899 : decode (am_b 121) 899 = .ok (.aload_n 2, 1) := by decide +kernel
theorem dd_121_900 : decode (am_b 121) 900 = .ok (.invokevirtual 75, 3) := by decide +kernel
theorem dd_121_903 : decode (am_b 121) 903 = .ok (.iload 5, 2) := by decide +kernel
theorem dd_121_905 : decode (am_b 121) 905 = .ok (.if_icmp .eq 5, 3) := by decide +kernel
theorem dd_121_908 : decode (am_b 121) 908 = .ok (.iconst 0, 1) := by decide +kernel
theorem dd_121_909 : decode (am_b 121) 909 = .ok (.ireturn, 1) := by decide +kernel
theorem dd_121_910 : decode (am_b 121) 910 = .ok (.iload 5, 2) := by decide +kernel
theorem dd_121_912 : decode (am_b 121) 912 = .ok (.ifCond .ne 15, 3) := by decide +kernel
theorem dd_121_915 : decode (am_b 121) 915 = .ok (.aload_n 3, 1) := by decide +kernel
theorem dd_121_916 : decode (am_b 121) 916 = .ok (.iconst 0, 1) := by decide +kernel
theorem dd_121_917 : decode (am_b 121) 917 = .ok (.laload, 1) := by decide +kernel
theorem dd_121_918 : decode (am_b 121) 918 = .ok (.iload 6, 2) := by decide +kernel
theorem dd_121_920 : decode (am_b 121) 920 = .ok (.i2l, 1) := by decide +kernel
theorem dd_121_921 : decode (am_b 121) 921 = .ok (.lcmp, 1) := by decide +kernel
theorem dd_121_922 : decode (am_b 121) 922 = .ok (.ifCond .eq 5, 3) := by decide +kernel
theorem dd_121_925 : decode (am_b 121) 925 = .ok (.iconst 0, 1) := by decide +kernel
theorem dd_121_926 : decode (am_b 121) 926 = .ok (.ireturn, 1) := by decide +kernel
theorem dd_121_927 : decode (am_b 121) 927 = .ok (.goto 233, 3) := by decide +kernel
theorem dd_121_930 : decode (am_b 121) 930 = .ok (.aload_n 1, 1) := by decide +kernel
theorem dd_121_931 : decode (am_b 121) 931 = .ok (.aload_n 0, 1) := by decide +kernel
theorem dd_121_932 : decode (am_b 121) 932 = .ok (.iload 4, 2) := by decide +kernel
theorem dd_121_934 : decode (am_b 121) 934 = .ok (.iconst 1, 1) := by decide +kernel
theorem dd_121_935 : decode (am_b 121) 935 = .ok (.iadd, 1) := by decide +kernel
theorem dd_121_936 : decode (am_b 121) 936 = .ok (.iaload, 1) := by decide +kernel
theorem dd_121_937 : decode (am_b 121) 937 = .ok (.aload_n 0, 1) := by decide +kernel
theorem dd_121_938 : decode (am_b 121) 938 = .ok (.iload 4, 2) := by decide +kernel
theorem dd_121_940 : decode (am_b 121) 940 = .ok (.iconst 2, 1) := by decide +kernel
theorem dd_121_941 : decode (am_b 121) 941 = .ok (.iadd, 1) := by decide +kernel
theorem dd_121_942 : decode (am_b 121) 942 = .ok (.iaload, 1) := by decide +kernel
theorem dd_121_943 : decode (am_b 121) 943 = .ok (.aload_n 3, 1) := by decide +kernel
theorem dd_121_944 : decode (am_b 121) 944 = .ok (.invokestatic 123, 3) := by decide +kernel
theorem dd_121_947 : decode (am_b 121) 947 = .ok (.istore 5, 2) := by decide +kernel
theorem dd_121_949 : decode (am_b 121) 949 = .ok (.aload_n 2, 1) := by decide +kernel
theorem dd_121_950 : decode (am_b 121) 950 = .ok (.aload_n 0, 1) := by decide +kernel
theorem dd_121_951 : decode (am_b 121) 951 = .ok (.iload 4, 2) := by decide +kernel
theorem dd_121_953 : decode (am_b 121) 953 = .ok (.iconst 1, 1) := by decide +kernel
theorem dd_121_954 : decode (am_b 121) 954 = .ok (.iadd, 1) := by decide +kernel
theorem dd_121_955 : decode (am_b 121) 955 = .ok (.iaload, 1) := by decide +kernel
theorem dd_121_956 : decode (am_b 121) 956 = .ok (.aload_n 0, 1) := by decide +kernel
theorem dd_121_957 : decode (am_b 121) 957 = .ok (.iload 4, 2) := by decide +kernel
theorem dd_121_959 : decode (am_b 121) 959 = .ok (.iconst 2, 1) := by decide +kernel
theorem dd_121_960 : decode (am_b 121) 960 = .ok (.iadd, 1) := by decide +kernel
theorem dd_121_961 : decode (am_b 121) 961 = .ok (.iaload, 1) := by decide +kernel
theorem dd_121_962 : decode (am_b 121) 962 = .ok (.invokevirtual 125, 3) := by decide +kernel
theorem dd_121_965 : decode (am_b 121) 965 = .ok (.istore 6, 2) := by decide +kernel
theorem dd_121_967 : decode (am_b 121) 967 = .ok (.aload_n 2, 1) := by decide +kernel
theorem dd_121_968 : decode (am_b 121) 968 = .ok (.invokevirtual 75, 3) := by decide +kernel
theorem dd_121_971 : decode (am_b 121) 971 = .ok (.iload 5, 2) := by decide +kernel
theorem dd_121_973 : decode (am_b 121) 973 = .ok (.if_icmp .eq 5, 3) := by decide +kernel
theorem dd_121_976 : decode (am_b 121) 976 = .ok (.iconst 0, 1) := by decide +kernel
theorem dd_121_977 : decode (am_b 121) 977 = .ok (.ireturn, 1) := by decide +kernel
theorem dd_121_978 : decode (am_b 121) 978 = .ok (.iload 5, 2) := by decide +kernel
theorem dd_121_980 : decode (am_b 121) 980 = .ok (.ifCond .ne 15, 3) := by decide +kernel
theorem dd_121_983 : decode (am_b 121) 983 = .ok (.aload_n 3, 1) := by decide +kernel
theorem dd_121_984 : decode (am_b 121) 984 = .ok (.iconst 0, 1) := by decide +kernel
theorem dd_121_985 : decode (am_b 121) 985 = .ok (.laload, 1) := by decide +kernel
theorem dd_121_986 : decode (am_b 121) 986 = .ok (.iload 6, 2) := by decide +kernel
theorem dd_121_988 : decode (am_b 121) 988 = .ok (.i2l, 1) := by decide +kernel
theorem dd_121_989 : decode (am_b 121) 989 = .ok (.lcmp, 1) := by decide +kernel
theorem dd_121_990 : decode (am_b 121) 990 = .ok (.ifCond .eq 5, 3) := by decide +kernel
theorem dd_121_993 : decode (am_b 121) 993 = .ok (.iconst 0, 1) := by decide +kernel
theorem dd_121_994 : decode (am_b 121) 994 = .ok (.ireturn, 1) := by decide +kernel
theorem dd_121_995 : decode (am_b 121) 995 = .ok (.goto 165, 3) := by decide +kernel
theorem dd_121_998 : decode (am_b 121) 998 = .ok (.aload_n 1, 1) := by decide +kernel
theorem dd_121_999 : decode (am_b 121) 999 = .ok (.aload_n 0, 1) := by decide +kernel
theorem dd_121_1000 : decode (am_b 121) 1000 = .ok (.iload 4, 2) := by decide +kernel
theorem dd_121_1002 : decode (am_b 121) 1002 = .ok (.iconst 1, 1) := by decide +kernel
theorem dd_121_1003 : decode (am_b 121) 1003 = .ok (.iadd, 1) := by decide +kernel
theorem dd_121_1004 : decode (am_b 121) 1004 = .ok (.iaload, 1) := by decide +kernel
theorem dd_121_1005 : decode (am_b 121) 1005 = .ok (.aload_n 0, 1) := by decide +kernel
theorem dd_121_1006 : decode (am_b 121) 1006 = .ok (.iload 4, 2) := by decide +kernel
theorem dd_121_1008 : decode (am_b 121) 1008 = .ok (.iconst 2, 1) := by decide +kernel
theorem dd_121_1009 : decode (am_b 121) 1009 = .ok (.iadd, 1) := by decide +kernel
theorem dd_121_1010 : decode (am_b 121) 1010 = .ok (.iaload, 1) := by decide +kernel
theorem dd_121_1011 : decode (am_b 121) 1011 = .ok (.aload_n 3, 1) := by decide +kernel
theorem dd_121_1012 : decode (am_b 121) 1012 = .ok (.invokestatic 126, 3) := by decide +kernel
theorem dd_121_1015 : decode (am_b 121) 1015 = .ok (.istore 5, 2) := by decide +kernel
theorem dd_121_1017 : decode (am_b 121) 1017 = .ok (.aload_n 2, 1) := by decide +kernel
theorem dd_121_1018 : decode (am_b 121) 1018 = .ok (.aload_n 0, 1) := by decide +kernel
theorem dd_121_1019 : decode (am_b 121) 1019 = .ok (.iload 4, 2) := by decide +kernel
theorem dd_121_1021 : decode (am_b 121) 1021 = .ok (.iconst 1, 1) := by decide +kernel
theorem dd_121_1022 : decode (am_b 121) 1022 = .ok (.iadd, 1) := by decide +kernel
theorem dd_121_1023 : decode (am_b 121) 1023 = .ok (.iaload, 1) := by decide +kernel
theorem dd_121_1024 : decode (am_b 121) 1024 = .ok (.aload_n 0, 1) := by decide +kernel
theorem dd_121_1025 : decode (am_b 121) 1025 = .ok (.iload 4, 2) := by decide +kernel
theorem dd_121_1027 : decode (am_b 121) 1027 = .ok (.iconst 2, 1) := by decide +kernel
theorem dd_121_1028 : decode (am_b 121) 1028 = .ok (.iadd, 1) := by decide +kernel
theorem dd_121_1029 : decode (am_b 121) 1029 = .ok (.iaload, 1) := by decide +kernel
theorem dd_121_1030 : decode (am_b 121) 1030 = .ok (.invokevirtual 128, 3) := by decide +kernel
theorem dd_121_1033 : decode (am_b 121) 1033 = .ok (.istore 6, 2) := by decide +kernel
theorem dd_121_1035 : decode (am_b 121) 1035 = .ok (.aload_n 2, 1) := by decide +kernel
theorem dd_121_1036 : decode (am_b 121) 1036 = .ok (.invokevirtual 75, 3) := by decide +kernel
theorem dd_121_1039 : decode (am_b 121) 1039 = .ok (.iload 5, 2) := by decide +kernel
theorem dd_121_1041 : decode (am_b 121) 1041 = .ok (.if_icmp .eq 5, 3) := by decide +kernel
theorem sg_121_842 {sh : am_Sh} {C : Nat → am_M → List am_V → am_O → Prop} {P : am_S ⊕ am_O → Prop} {M : am_M} {x4 : Int32} {u5 : Option am_V} {u6 : Option am_V} {xs0 : Int32} {xs2 : Int32} {M1 : am_M} {r1 : Int32} (hc1 : C 100 M [am_R (some (20, 0, 0)), am_I xs2] (M1, Sum.inl (some (am_I r1)))) (k1 : xs0 = r1 → am_ev sh C 121 (1160, [some (am_R (some (31, 0, 0))), some (am_R (some (0, 0, 0))), some (am_R (some (20, 0, 0))), some (am_R (some (30, 0, 0))), some (am_I x4), u5, u6], [], M1, 0) P) (k2 : ¬ xs0 = r1 → am_ev sh C 121 (848, [some (am_R (some (31, 0, 0))), some (am_R (some (0, 0, 0))), some (am_R (some (20, 0, 0))), some (am_R (some (30, 0, 0))), some (am_I x4), u5, u6], [], M1, 0) P) : am_ev sh C 121 (842, [some (am_R (some (31, 0, 0))), some (am_R (some (0, 0, 0))), some (am_R (some (20, 0, 0))), some (am_R (some (30, 0, 0))), some (am_I x4), u5, u6], [am_I xs2, am_R (some (20, 0, 0)), am_I xs0], M, 0) P := by
  refine am_e_callV (c := 100) (k := 2) (as := [am_R (some (20, 0, 0)), am_I xs2]) (S' := [am_I r1, am_I xs0]) (v := some (am_I r1)) (M' := M1) (n' := 0) dd_121_842 (by decide +kernel) ⟨Nat.le_of_ble_eq_true rfl, Nat.le_of_ble_eq_true rfl, by decide +kernel, (Or.inr (am_rcv_of rfl))⟩ rfl rfl (by decide +kernel) hc1 rfl ?_
  exact am_a_icmp_eq (tgt := 1160) (pc' := 848) dd_121_845 rfl rfl k1 k2

theorem sg_121_848 {sh : am_Sh} {C : Nat → am_M → List am_V → am_O → Prop} {P : am_S ⊕ am_O → Prop} {M : am_M} {x4 : Int32} {u5 : Option am_V} {u6 : Option am_V}  (k : P (Sum.inr (M, Sum.inl (some (am_I 0))))) : am_ev sh C 121 (848, [some (am_R (some (31, 0, 0))), some (am_R (some (0, 0, 0))), some (am_R (some (20, 0, 0))), some (am_R (some (30, 0, 0))), some (am_I x4), u5, u6], [], M, 0) P := by
  refine am_e_iconst (v := 0) dd_121_848 rfl rfl ?_
  exact am_e_iret dd_121_849 (by decide +kernel) (Or.inr ⟨rfl, Or.inl rfl⟩) k

theorem sg_121_850 {sh : am_Sh} {C : Nat → am_M → List am_V → am_O → Prop} {P : am_S ⊕ am_O → Prop} {M : am_M} {x4 : Int32} {u5 : Option am_V} {u6 : Option am_V} {j1 : Nat} {j2 : Nat} {j3 : Nat} {M1 : am_M} {r1 : Int32} {M2 : am_M} {r2 : Int32} {M3 : am_M} {r3 : Int32} (hL : sh.2.2.2 < 2147483648) (hx_j1 : x4 + 1 = nI j1) (hl_j1 : j1 < sh.2.2.2) (hx_j2 : x4 + 2 = nI j2) (hl_j2 : j2 < sh.2.2.2) (hx_j3 : x4 + 3 = nI j3) (hl_j3 : j3 < sh.2.2.2) (hc1 : C 117 M [am_R (some (0, 0, 0)), am_I (M (31, 0, 0) j1), am_I (M (31, 0, 0) j2), am_I (M (31, 0, 0) j3), am_R (some (30, 0, 0))] (M1, Sum.inl (some (am_I r1)))) (hc2 : C 101 M1 [am_R (some (20, 0, 0)), am_I (M1 (31, 0, 0) j1), am_I (M1 (31, 0, 0) j2), am_I (M1 (31, 0, 0) j3)] (M2, Sum.inl (some (am_I r2)))) (hc3 : C 60 M2 [am_R (some (20, 0, 0))] (M3, Sum.inl (some (am_I r3)))) (k1 : r3 = r1 → am_ev sh C 121 (910, [some (am_R (some (31, 0, 0))), some (am_R (some (0, 0, 0))), some (am_R (some (20, 0, 0))), some (am_R (some (30, 0, 0))), some (am_I x4), some (am_I r1), some (am_I r2)], [], M3, 3) P) (k2 : ¬ r3 = r1 → am_ev sh C 121 (908, [some (am_R (some (31, 0, 0))), some (am_R (some (0, 0, 0))), some (am_R (some (20, 0, 0))), some (am_R (some (30, 0, 0))), some (am_I x4), some (am_I r1), some (am_I r2)], [], M3, 3) P) : am_ev sh C 121 (850, [some (am_R (some (31, 0, 0))), some (am_R (some (0, 0, 0))), some (am_R (some (20, 0, 0))), some (am_R (some (30, 0, 0))), some (am_I x4), u5, u6], [], M, 0) P := by
  refine am_e_aload_n dd_121_850 rfl rfl ?_
  refine am_e_aload_n dd_121_851 rfl rfl ?_
  refine am_e_iload dd_121_852 rfl rfl ?_
  refine am_e_iconst (v := 1) dd_121_854 rfl rfl ?_
  refine am_e_iadd dd_121_855 rfl ?_
  refine am_a_sald dd_121_856 rfl hx_j1 hl_j1 hL rfl ?_
  refine am_e_aload_n dd_121_857 rfl rfl ?_
  refine am_e_iload dd_121_858 rfl rfl ?_
  refine am_e_iconst (v := 2) dd_121_860 rfl rfl ?_
  refine am_e_iadd dd_121_861 rfl ?_
  refine am_a_sald dd_121_862 rfl hx_j2 hl_j2 hL rfl ?_
  refine am_e_aload_n dd_121_863 rfl rfl ?_
  refine am_e_iload dd_121_864 rfl rfl ?_
  refine am_e_iconst (v := 3) dd_121_866 rfl rfl ?_
  refine am_e_iadd dd_121_867 rfl ?_
  refine am_a_sald dd_121_868 rfl hx_j3 hl_j3 hL rfl ?_
  refine am_e_aload_n dd_121_869 rfl rfl ?_
  refine am_e_callS (c := 117) (k := 5) (as := [am_R (some (0, 0, 0)), am_I (M (31, 0, 0) j1), am_I (M (31, 0, 0) j2), am_I (M (31, 0, 0) j3), am_R (some (30, 0, 0))]) (S' := [am_I r1]) (v := some (am_I r1)) (M' := M1) (n' := 3) dd_121_870 (by decide +kernel) (by decide +kernel) ⟨Nat.le_of_ble_eq_true rfl, Nat.le_of_ble_eq_true rfl, by decide +kernel, (Or.inl rfl)⟩ rfl rfl (by decide +kernel) hc1 rfl ?_
  refine am_e_istore dd_121_873 (Nat.le_of_ble_eq_true rfl) rfl rfl ?_
  refine am_e_aload_n dd_121_875 rfl rfl ?_
  refine am_e_aload_n dd_121_876 rfl rfl ?_
  refine am_e_iload dd_121_877 rfl rfl ?_
  refine am_e_iconst (v := 1) dd_121_879 rfl rfl ?_
  refine am_e_iadd dd_121_880 rfl ?_
  refine am_a_sald dd_121_881 rfl hx_j1 hl_j1 hL rfl ?_
  refine am_e_aload_n dd_121_882 rfl rfl ?_
  refine am_e_iload dd_121_883 rfl rfl ?_
  refine am_e_iconst (v := 2) dd_121_885 rfl rfl ?_
  refine am_e_iadd dd_121_886 rfl ?_
  refine am_a_sald dd_121_887 rfl hx_j2 hl_j2 hL rfl ?_
  refine am_e_aload_n dd_121_888 rfl rfl ?_
  refine am_e_iload dd_121_889 rfl rfl ?_
  refine am_e_iconst (v := 3) dd_121_891 rfl rfl ?_
  refine am_e_iadd dd_121_892 rfl ?_
  refine am_a_sald dd_121_893 rfl hx_j3 hl_j3 hL rfl ?_
  refine am_e_callV (c := 101) (k := 4) (as := [am_R (some (20, 0, 0)), am_I (M1 (31, 0, 0) j1), am_I (M1 (31, 0, 0) j2), am_I (M1 (31, 0, 0) j3)]) (S' := [am_I r2]) (v := some (am_I r2)) (M' := M2) (n' := 3) dd_121_894 (by decide +kernel) ⟨Nat.le_of_ble_eq_true rfl, Nat.le_of_ble_eq_true rfl, by decide +kernel, (Or.inr (am_rcv_of rfl))⟩ rfl rfl (by decide +kernel) hc2 rfl ?_
  refine am_e_istore dd_121_897 (Nat.le_of_ble_eq_true rfl) rfl rfl ?_
  refine am_e_aload_n dd_121_899 rfl rfl ?_
  refine am_e_callV (c := 60) (k := 1) (as := [am_R (some (20, 0, 0))]) (S' := [am_I r3]) (v := some (am_I r3)) (M' := M3) (n' := 3) dd_121_900 (by decide +kernel) ⟨Nat.le_of_ble_eq_true rfl, Nat.le_of_ble_eq_true rfl, by decide +kernel, (Or.inr (am_rcv_of rfl))⟩ rfl rfl (by decide +kernel) hc3 rfl ?_
  refine am_e_iload dd_121_903 rfl rfl ?_
  exact am_a_icmp_eq (tgt := 910) (pc' := 908) dd_121_905 rfl rfl k1 k2

theorem sg_121_908 {sh : am_Sh} {C : Nat → am_M → List am_V → am_O → Prop} {P : am_S ⊕ am_O → Prop} {M : am_M} {x4 : Int32} {x5 : Int32} {x6 : Int32}  (k : P (Sum.inr (M, Sum.inl (some (am_I 0))))) : am_ev sh C 121 (908, [some (am_R (some (31, 0, 0))), some (am_R (some (0, 0, 0))), some (am_R (some (20, 0, 0))), some (am_R (some (30, 0, 0))), some (am_I x4), some (am_I x5), some (am_I x6)], [], M, 3) P := by
  refine am_e_iconst (v := 0) dd_121_908 rfl rfl ?_
  exact am_e_iret dd_121_909 (by decide +kernel) (Or.inr ⟨rfl, Or.inl rfl⟩) k

theorem sg_121_910 {sh : am_Sh} {C : Nat → am_M → List am_V → am_O → Prop} {P : am_S ⊕ am_O → Prop} {M : am_M} {x4 : Int32} {x5 : Int32} {x6 : Int32}  (k1 : ¬ x5 = 0 → am_ev sh C 121 (927, [some (am_R (some (31, 0, 0))), some (am_R (some (0, 0, 0))), some (am_R (some (20, 0, 0))), some (am_R (some (30, 0, 0))), some (am_I x4), some (am_I x5), some (am_I x6)], [], M, 3) P) (k2 : x5 = 0 → am_ev sh C 121 (915, [some (am_R (some (31, 0, 0))), some (am_R (some (0, 0, 0))), some (am_R (some (20, 0, 0))), some (am_R (some (30, 0, 0))), some (am_I x4), some (am_I x5), some (am_I x6)], [], M, 3) P) : am_ev sh C 121 (910, [some (am_R (some (31, 0, 0))), some (am_R (some (0, 0, 0))), some (am_R (some (20, 0, 0))), some (am_R (some (30, 0, 0))), some (am_I x4), some (am_I x5), some (am_I x6)], [], M, 3) P := by
  refine am_e_iload dd_121_910 rfl rfl ?_
  exact am_a_if_ne (tgt := 927) (pc' := 915) dd_121_912 rfl rfl k1 k2

theorem sg_121_915 {sh : am_Sh} {C : Nat → am_M → List am_V → am_O → Prop} {P : am_S ⊕ am_O → Prop} {M : am_M} {x4 : Int32} {x5 : Int32} {x6 : Int32}  (k1 : (lg_cmp (M (30, 0, 0) 0).toInt64 (x6).toInt64) = 0 → am_ev sh C 121 (927, [some (am_R (some (31, 0, 0))), some (am_R (some (0, 0, 0))), some (am_R (some (20, 0, 0))), some (am_R (some (30, 0, 0))), some (am_I x4), some (am_I x5), some (am_I x6)], [], M, 3) P) (k2 : ¬ (lg_cmp (M (30, 0, 0) 0).toInt64 (x6).toInt64) = 0 → am_ev sh C 121 (925, [some (am_R (some (31, 0, 0))), some (am_R (some (0, 0, 0))), some (am_R (some (20, 0, 0))), some (am_R (some (30, 0, 0))), some (am_I x4), some (am_I x5), some (am_I x6)], [], M, 3) P) : am_ev sh C 121 (915, [some (am_R (some (31, 0, 0))), some (am_R (some (0, 0, 0))), some (am_R (some (20, 0, 0))), some (am_R (some (30, 0, 0))), some (am_I x4), some (am_I x5), some (am_I x6)], [], M, 3) P := by
  refine am_e_aload_n dd_121_915 rfl rfl ?_
  refine am_e_iconst (v := 0) dd_121_916 rfl rfl ?_
  refine am_a_lald dd_121_917 rfl rfl (by decide) (by decide) rfl ?_
  refine am_e_iload dd_121_918 rfl rfl ?_
  refine am_e_i2l dd_121_920 rfl ?_
  refine am_e_lcmp dd_121_921 rfl ?_
  exact am_a_if_eq (tgt := 927) (pc' := 925) dd_121_922 rfl rfl k1 k2

theorem sg_121_925 {sh : am_Sh} {C : Nat → am_M → List am_V → am_O → Prop} {P : am_S ⊕ am_O → Prop} {M : am_M} {x4 : Int32} {x5 : Int32} {x6 : Int32}  (k : P (Sum.inr (M, Sum.inl (some (am_I 0))))) : am_ev sh C 121 (925, [some (am_R (some (31, 0, 0))), some (am_R (some (0, 0, 0))), some (am_R (some (20, 0, 0))), some (am_R (some (30, 0, 0))), some (am_I x4), some (am_I x5), some (am_I x6)], [], M, 3) P := by
  refine am_e_iconst (v := 0) dd_121_925 rfl rfl ?_
  exact am_e_iret dd_121_926 (by decide +kernel) (Or.inr ⟨rfl, Or.inl rfl⟩) k

theorem sg_121_927 {sh : am_Sh} {C : Nat → am_M → List am_V → am_O → Prop} {P : am_S ⊕ am_O → Prop} {M : am_M} {x4 : Int32} {x5 : Int32} {x6 : Int32}  (k : am_ev sh C 121 (1160, [some (am_R (some (31, 0, 0))), some (am_R (some (0, 0, 0))), some (am_R (some (20, 0, 0))), some (am_R (some (30, 0, 0))), some (am_I x4), some (am_I x5), some (am_I x6)], [], M, 3) P) : am_ev sh C 121 (927, [some (am_R (some (31, 0, 0))), some (am_R (some (0, 0, 0))), some (am_R (some (20, 0, 0))), some (am_R (some (30, 0, 0))), some (am_I x4), some (am_I x5), some (am_I x6)], [], M, 3) P := by
  refine am_e_goto (pc' := 1160) dd_121_927 rfl ?_
  exact k

theorem sg_121_930 {sh : am_Sh} {C : Nat → am_M → List am_V → am_O → Prop} {P : am_S ⊕ am_O → Prop} {M : am_M} {x4 : Int32} {u5 : Option am_V} {u6 : Option am_V} {j1 : Nat} {j2 : Nat} {M1 : am_M} {r1 : Int32} {M2 : am_M} {r2 : Int32} {M3 : am_M} {r3 : Int32} (hL : sh.2.2.2 < 2147483648) (hx_j1 : x4 + 1 = nI j1) (hl_j1 : j1 < sh.2.2.2) (hx_j2 : x4 + 2 = nI j2) (hl_j2 : j2 < sh.2.2.2) (hc1 : C 118 M [am_R (some (0, 0, 0)), am_I (M (31, 0, 0) j1), am_I (M (31, 0, 0) j2), am_R (some (30, 0, 0))] (M1, Sum.inl (some (am_I r1)))) (hc2 : C 102 M1 [am_R (some (20, 0, 0)), am_I (M1 (31, 0, 0) j1), am_I (M1 (31, 0, 0) j2)] (M2, Sum.inl (some (am_I r2)))) (hc3 : C 60 M2 [am_R (some (20, 0, 0))] (M3, Sum.inl (some (am_I r3)))) (k1 : r3 = r1 → am_ev sh C 121 (978, [some (am_R (some (31, 0, 0))), some (am_R (some (0, 0, 0))), some (am_R (some (20, 0, 0))), some (am_R (some (30, 0, 0))), some (am_I x4), some (am_I r1), some (am_I r2)], [], M3, 2) P) (k2 : ¬ r3 = r1 → am_ev sh C 121 (976, [some (am_R (some (31, 0, 0))), some (am_R (some (0, 0, 0))), some (am_R (some (20, 0, 0))), some (am_R (some (30, 0, 0))), some (am_I x4), some (am_I r1), some (am_I r2)], [], M3, 2) P) : am_ev sh C 121 (930, [some (am_R (some (31, 0, 0))), some (am_R (some (0, 0, 0))), some (am_R (some (20, 0, 0))), some (am_R (some (30, 0, 0))), some (am_I x4), u5, u6], [], M, 0) P := by
  refine am_e_aload_n dd_121_930 rfl rfl ?_
  refine am_e_aload_n dd_121_931 rfl rfl ?_
  refine am_e_iload dd_121_932 rfl rfl ?_
  refine am_e_iconst (v := 1) dd_121_934 rfl rfl ?_
  refine am_e_iadd dd_121_935 rfl ?_
  refine am_a_sald dd_121_936 rfl hx_j1 hl_j1 hL rfl ?_
  refine am_e_aload_n dd_121_937 rfl rfl ?_
  refine am_e_iload dd_121_938 rfl rfl ?_
  refine am_e_iconst (v := 2) dd_121_940 rfl rfl ?_
  refine am_e_iadd dd_121_941 rfl ?_
  refine am_a_sald dd_121_942 rfl hx_j2 hl_j2 hL rfl ?_
  refine am_e_aload_n dd_121_943 rfl rfl ?_
  refine am_e_callS (c := 118) (k := 4) (as := [am_R (some (0, 0, 0)), am_I (M (31, 0, 0) j1), am_I (M (31, 0, 0) j2), am_R (some (30, 0, 0))]) (S' := [am_I r1]) (v := some (am_I r1)) (M' := M1) (n' := 2) dd_121_944 (by decide +kernel) (by decide +kernel) ⟨Nat.le_of_ble_eq_true rfl, Nat.le_of_ble_eq_true rfl, by decide +kernel, (Or.inl rfl)⟩ rfl rfl (by decide +kernel) hc1 rfl ?_
  refine am_e_istore dd_121_947 (Nat.le_of_ble_eq_true rfl) rfl rfl ?_
  refine am_e_aload_n dd_121_949 rfl rfl ?_
  refine am_e_aload_n dd_121_950 rfl rfl ?_
  refine am_e_iload dd_121_951 rfl rfl ?_
  refine am_e_iconst (v := 1) dd_121_953 rfl rfl ?_
  refine am_e_iadd dd_121_954 rfl ?_
  refine am_a_sald dd_121_955 rfl hx_j1 hl_j1 hL rfl ?_
  refine am_e_aload_n dd_121_956 rfl rfl ?_
  refine am_e_iload dd_121_957 rfl rfl ?_
  refine am_e_iconst (v := 2) dd_121_959 rfl rfl ?_
  refine am_e_iadd dd_121_960 rfl ?_
  refine am_a_sald dd_121_961 rfl hx_j2 hl_j2 hL rfl ?_
  refine am_e_callV (c := 102) (k := 3) (as := [am_R (some (20, 0, 0)), am_I (M1 (31, 0, 0) j1), am_I (M1 (31, 0, 0) j2)]) (S' := [am_I r2]) (v := some (am_I r2)) (M' := M2) (n' := 2) dd_121_962 (by decide +kernel) ⟨Nat.le_of_ble_eq_true rfl, Nat.le_of_ble_eq_true rfl, by decide +kernel, (Or.inr (am_rcv_of rfl))⟩ rfl rfl (by decide +kernel) hc2 rfl ?_
  refine am_e_istore dd_121_965 (Nat.le_of_ble_eq_true rfl) rfl rfl ?_
  refine am_e_aload_n dd_121_967 rfl rfl ?_
  refine am_e_callV (c := 60) (k := 1) (as := [am_R (some (20, 0, 0))]) (S' := [am_I r3]) (v := some (am_I r3)) (M' := M3) (n' := 2) dd_121_968 (by decide +kernel) ⟨Nat.le_of_ble_eq_true rfl, Nat.le_of_ble_eq_true rfl, by decide +kernel, (Or.inr (am_rcv_of rfl))⟩ rfl rfl (by decide +kernel) hc3 rfl ?_
  refine am_e_iload dd_121_971 rfl rfl ?_
  exact am_a_icmp_eq (tgt := 978) (pc' := 976) dd_121_973 rfl rfl k1 k2

theorem sg_121_976 {sh : am_Sh} {C : Nat → am_M → List am_V → am_O → Prop} {P : am_S ⊕ am_O → Prop} {M : am_M} {x4 : Int32} {x5 : Int32} {x6 : Int32}  (k : P (Sum.inr (M, Sum.inl (some (am_I 0))))) : am_ev sh C 121 (976, [some (am_R (some (31, 0, 0))), some (am_R (some (0, 0, 0))), some (am_R (some (20, 0, 0))), some (am_R (some (30, 0, 0))), some (am_I x4), some (am_I x5), some (am_I x6)], [], M, 2) P := by
  refine am_e_iconst (v := 0) dd_121_976 rfl rfl ?_
  exact am_e_iret dd_121_977 (by decide +kernel) (Or.inr ⟨rfl, Or.inl rfl⟩) k

theorem sg_121_978 {sh : am_Sh} {C : Nat → am_M → List am_V → am_O → Prop} {P : am_S ⊕ am_O → Prop} {M : am_M} {x4 : Int32} {x5 : Int32} {x6 : Int32}  (k1 : ¬ x5 = 0 → am_ev sh C 121 (995, [some (am_R (some (31, 0, 0))), some (am_R (some (0, 0, 0))), some (am_R (some (20, 0, 0))), some (am_R (some (30, 0, 0))), some (am_I x4), some (am_I x5), some (am_I x6)], [], M, 2) P) (k2 : x5 = 0 → am_ev sh C 121 (983, [some (am_R (some (31, 0, 0))), some (am_R (some (0, 0, 0))), some (am_R (some (20, 0, 0))), some (am_R (some (30, 0, 0))), some (am_I x4), some (am_I x5), some (am_I x6)], [], M, 2) P) : am_ev sh C 121 (978, [some (am_R (some (31, 0, 0))), some (am_R (some (0, 0, 0))), some (am_R (some (20, 0, 0))), some (am_R (some (30, 0, 0))), some (am_I x4), some (am_I x5), some (am_I x6)], [], M, 2) P := by
  refine am_e_iload dd_121_978 rfl rfl ?_
  exact am_a_if_ne (tgt := 995) (pc' := 983) dd_121_980 rfl rfl k1 k2

theorem sg_121_983 {sh : am_Sh} {C : Nat → am_M → List am_V → am_O → Prop} {P : am_S ⊕ am_O → Prop} {M : am_M} {x4 : Int32} {x5 : Int32} {x6 : Int32}  (k1 : (lg_cmp (M (30, 0, 0) 0).toInt64 (x6).toInt64) = 0 → am_ev sh C 121 (995, [some (am_R (some (31, 0, 0))), some (am_R (some (0, 0, 0))), some (am_R (some (20, 0, 0))), some (am_R (some (30, 0, 0))), some (am_I x4), some (am_I x5), some (am_I x6)], [], M, 2) P) (k2 : ¬ (lg_cmp (M (30, 0, 0) 0).toInt64 (x6).toInt64) = 0 → am_ev sh C 121 (993, [some (am_R (some (31, 0, 0))), some (am_R (some (0, 0, 0))), some (am_R (some (20, 0, 0))), some (am_R (some (30, 0, 0))), some (am_I x4), some (am_I x5), some (am_I x6)], [], M, 2) P) : am_ev sh C 121 (983, [some (am_R (some (31, 0, 0))), some (am_R (some (0, 0, 0))), some (am_R (some (20, 0, 0))), some (am_R (some (30, 0, 0))), some (am_I x4), some (am_I x5), some (am_I x6)], [], M, 2) P := by
  refine am_e_aload_n dd_121_983 rfl rfl ?_
  refine am_e_iconst (v := 0) dd_121_984 rfl rfl ?_
  refine am_a_lald dd_121_985 rfl rfl (by decide) (by decide) rfl ?_
  refine am_e_iload dd_121_986 rfl rfl ?_
  refine am_e_i2l dd_121_988 rfl ?_
  refine am_e_lcmp dd_121_989 rfl ?_
  exact am_a_if_eq (tgt := 995) (pc' := 993) dd_121_990 rfl rfl k1 k2

theorem sg_121_993 {sh : am_Sh} {C : Nat → am_M → List am_V → am_O → Prop} {P : am_S ⊕ am_O → Prop} {M : am_M} {x4 : Int32} {x5 : Int32} {x6 : Int32}  (k : P (Sum.inr (M, Sum.inl (some (am_I 0))))) : am_ev sh C 121 (993, [some (am_R (some (31, 0, 0))), some (am_R (some (0, 0, 0))), some (am_R (some (20, 0, 0))), some (am_R (some (30, 0, 0))), some (am_I x4), some (am_I x5), some (am_I x6)], [], M, 2) P := by
  refine am_e_iconst (v := 0) dd_121_993 rfl rfl ?_
  exact am_e_iret dd_121_994 (by decide +kernel) (Or.inr ⟨rfl, Or.inl rfl⟩) k

theorem sg_121_995 {sh : am_Sh} {C : Nat → am_M → List am_V → am_O → Prop} {P : am_S ⊕ am_O → Prop} {M : am_M} {x4 : Int32} {x5 : Int32} {x6 : Int32}  (k : am_ev sh C 121 (1160, [some (am_R (some (31, 0, 0))), some (am_R (some (0, 0, 0))), some (am_R (some (20, 0, 0))), some (am_R (some (30, 0, 0))), some (am_I x4), some (am_I x5), some (am_I x6)], [], M, 2) P) : am_ev sh C 121 (995, [some (am_R (some (31, 0, 0))), some (am_R (some (0, 0, 0))), some (am_R (some (20, 0, 0))), some (am_R (some (30, 0, 0))), some (am_I x4), some (am_I x5), some (am_I x6)], [], M, 2) P := by
  refine am_e_goto (pc' := 1160) dd_121_995 rfl ?_
  exact k

theorem sg_121_998 {sh : am_Sh} {C : Nat → am_M → List am_V → am_O → Prop} {P : am_S ⊕ am_O → Prop} {M : am_M} {x4 : Int32} {u5 : Option am_V} {u6 : Option am_V} {j1 : Nat} {j2 : Nat} {M1 : am_M} {r1 : Int32} {M2 : am_M} {r2 : Int32} {M3 : am_M} {r3 : Int32} (hL : sh.2.2.2 < 2147483648) (hx_j1 : x4 + 1 = nI j1) (hl_j1 : j1 < sh.2.2.2) (hx_j2 : x4 + 2 = nI j2) (hl_j2 : j2 < sh.2.2.2) (hc1 : C 119 M [am_R (some (0, 0, 0)), am_I (M (31, 0, 0) j1), am_I (M (31, 0, 0) j2), am_R (some (30, 0, 0))] (M1, Sum.inl (some (am_I r1)))) (hc2 : C 103 M1 [am_R (some (20, 0, 0)), am_I (M1 (31, 0, 0) j1), am_I (M1 (31, 0, 0) j2)] (M2, Sum.inl (some (am_I r2)))) (hc3 : C 60 M2 [am_R (some (20, 0, 0))] (M3, Sum.inl (some (am_I r3)))) (k1 : r3 = r1 → am_ev sh C 121 (1046, [some (am_R (some (31, 0, 0))), some (am_R (some (0, 0, 0))), some (am_R (some (20, 0, 0))), some (am_R (some (30, 0, 0))), some (am_I x4), some (am_I r1), some (am_I r2)], [], M3, 2) P) (k2 : ¬ r3 = r1 → am_ev sh C 121 (1044, [some (am_R (some (31, 0, 0))), some (am_R (some (0, 0, 0))), some (am_R (some (20, 0, 0))), some (am_R (some (30, 0, 0))), some (am_I x4), some (am_I r1), some (am_I r2)], [], M3, 2) P) : am_ev sh C 121 (998, [some (am_R (some (31, 0, 0))), some (am_R (some (0, 0, 0))), some (am_R (some (20, 0, 0))), some (am_R (some (30, 0, 0))), some (am_I x4), u5, u6], [], M, 0) P := by
  refine am_e_aload_n dd_121_998 rfl rfl ?_
  refine am_e_aload_n dd_121_999 rfl rfl ?_
  refine am_e_iload dd_121_1000 rfl rfl ?_
  refine am_e_iconst (v := 1) dd_121_1002 rfl rfl ?_
  refine am_e_iadd dd_121_1003 rfl ?_
  refine am_a_sald dd_121_1004 rfl hx_j1 hl_j1 hL rfl ?_
  refine am_e_aload_n dd_121_1005 rfl rfl ?_
  refine am_e_iload dd_121_1006 rfl rfl ?_
  refine am_e_iconst (v := 2) dd_121_1008 rfl rfl ?_
  refine am_e_iadd dd_121_1009 rfl ?_
  refine am_a_sald dd_121_1010 rfl hx_j2 hl_j2 hL rfl ?_
  refine am_e_aload_n dd_121_1011 rfl rfl ?_
  refine am_e_callS (c := 119) (k := 4) (as := [am_R (some (0, 0, 0)), am_I (M (31, 0, 0) j1), am_I (M (31, 0, 0) j2), am_R (some (30, 0, 0))]) (S' := [am_I r1]) (v := some (am_I r1)) (M' := M1) (n' := 2) dd_121_1012 (by decide +kernel) (by decide +kernel) ⟨Nat.le_of_ble_eq_true rfl, Nat.le_of_ble_eq_true rfl, by decide +kernel, (Or.inl rfl)⟩ rfl rfl (by decide +kernel) hc1 rfl ?_
  refine am_e_istore dd_121_1015 (Nat.le_of_ble_eq_true rfl) rfl rfl ?_
  refine am_e_aload_n dd_121_1017 rfl rfl ?_
  refine am_e_aload_n dd_121_1018 rfl rfl ?_
  refine am_e_iload dd_121_1019 rfl rfl ?_
  refine am_e_iconst (v := 1) dd_121_1021 rfl rfl ?_
  refine am_e_iadd dd_121_1022 rfl ?_
  refine am_a_sald dd_121_1023 rfl hx_j1 hl_j1 hL rfl ?_
  refine am_e_aload_n dd_121_1024 rfl rfl ?_
  refine am_e_iload dd_121_1025 rfl rfl ?_
  refine am_e_iconst (v := 2) dd_121_1027 rfl rfl ?_
  refine am_e_iadd dd_121_1028 rfl ?_
  refine am_a_sald dd_121_1029 rfl hx_j2 hl_j2 hL rfl ?_
  refine am_e_callV (c := 103) (k := 3) (as := [am_R (some (20, 0, 0)), am_I (M1 (31, 0, 0) j1), am_I (M1 (31, 0, 0) j2)]) (S' := [am_I r2]) (v := some (am_I r2)) (M' := M2) (n' := 2) dd_121_1030 (by decide +kernel) ⟨Nat.le_of_ble_eq_true rfl, Nat.le_of_ble_eq_true rfl, by decide +kernel, (Or.inr (am_rcv_of rfl))⟩ rfl rfl (by decide +kernel) hc2 rfl ?_
  refine am_e_istore dd_121_1033 (Nat.le_of_ble_eq_true rfl) rfl rfl ?_
  refine am_e_aload_n dd_121_1035 rfl rfl ?_
  refine am_e_callV (c := 60) (k := 1) (as := [am_R (some (20, 0, 0))]) (S' := [am_I r3]) (v := some (am_I r3)) (M' := M3) (n' := 2) dd_121_1036 (by decide +kernel) ⟨Nat.le_of_ble_eq_true rfl, Nat.le_of_ble_eq_true rfl, by decide +kernel, (Or.inr (am_rcv_of rfl))⟩ rfl rfl (by decide +kernel) hc3 rfl ?_
  refine am_e_iload dd_121_1039 rfl rfl ?_
  exact am_a_icmp_eq (tgt := 1046) (pc' := 1044) dd_121_1041 rfl rfl k1 k2

