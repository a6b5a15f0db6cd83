-- the law, its loop (3)
theorem dd_121_667 : decode (am_b 121) 667 = .ok (.iconst 0, 1) := by decide +kernel
theorem dd_121_668 : decode (am_b 121) 668 = .ok (.ireturn, 1) := by decide +kernel
theorem dd_121_669 : decode (am_b 121) 669 = .ok (.goto 491, 3) := by decide +kernel
theorem dd_121_672 : decode (am_b 121) 672 = .ok (.aload_n 1, 1) := by decide +kernel
theorem dd_121_673 : decode (am_b 121) 673 = .ok (.aload_n 0, 1) := by decide +kernel
theorem dd_121_674 : decode (am_b 121) 674 = .ok (.iload 4, 2) := by decide +kernel
theorem dd_121_676 : decode (am_b 121) 676 = .ok (.iconst 1, 1) := by decide +kernel
theorem dd_121_677 : decode (am_b 121) 677 = .ok (.iadd, 1) := by decide +kernel
theorem dd_121_678 : decode (am_b 121) 678 = .ok (.iaload, 1) := by decide +kernel
theorem dd_121_679 : decode (am_b 121) 679 = .ok (.aload_n 3, 1) := by decide +kernel
theorem dd_121_680 : decode (am_b 121) 680 = .ok (.invokestatic 104, 3) := by decide +kernel
theorem dd_121_683 : decode (am_b 121) 683 = .ok (.istore 5, 2) := by decide +kernel
theorem dd_121_685 : decode (am_b 121) 685 = .ok (.aload_n 2, 1) := by decide +kernel
theorem dd_121_686 : decode (am_b 121) 686 = .ok (.aload_n 0, 1) := by decide +kernel
theorem dd_121_687 : decode (am_b 121) 687 = .ok (.iload 4, 2) := by decide +kernel
theorem dd_121_689 : decode (am_b 121) 689 = .ok (.iconst 1, 1) := by decide +kernel
theorem dd_121_690 : decode (am_b 121) 690 = .ok (.iadd, 1) := by decide +kernel
theorem dd_121_691 : decode (am_b 121) 691 = .ok (.iaload, 1) := by decide +kernel
theorem dd_121_692 : decode (am_b 121) 692 = .ok (.invokevirtual 106, 3) := by decide +kernel
theorem dd_121_695 : decode (am_b 121) 695 = .ok (.istore 6, 2) := by decide +kernel
theorem dd_121_697 : decode (am_b 121) 697 = .ok (.aload_n 2, 1) := by decide +kernel
theorem dd_121_698 : decode (am_b 121) 698 = .ok (.invokevirtual 75, 3) := by decide +kernel
theorem dd_121_701 : decode (am_b 121) 701 = .ok (.iload 5, 2) := by decide +kernel
theorem dd_121_703 : decode (am_b 121) 703 = .ok (.if_icmp .eq 5, 3) := by decide +kernel
theorem dd_121_706 : decode (am_b 121) 706 = .ok (.iconst 0, 1) := by decide +kernel
theorem dd_121_707 : decode (am_b 121) 707 = .ok (.ireturn, 1) := by decide +kernel
theorem dd_121_708 : decode (am_b 121) 708 = .ok (.iload 5, 2) := by decide +kernel
theorem dd_121_710 : decode (am_b 121) 710 = .ok (.ifCond .ne 15, 3) := by decide +kernel
theorem dd_121_713 : decode (am_b 121) 713 = .ok (.aload_n 3, 1) := by decide +kernel
theorem dd_121_714 : decode (am_b 121) 714 = .ok (.iconst 0, 1) := by decide +kernel
theorem dd_121_715 : decode (am_b 121) 715 = .ok (.laload, 1) := by decide +kernel
theorem dd_121_716 : decode (am_b 121) 716 = .ok (.iload 6, 2) := by decide +kernel
theorem dd_121_718 : decode (am_b 121) 718 = .ok (.i2l, 1) := by decide +kernel
theorem dd_121_719 : decode (am_b 121) 719 = .ok (.lcmp, 1) := by decide +kernel
theorem dd_121_720 : decode (am_b 121) 720 = .ok (.ifCond .eq 5, 3) := by decide +kernel
theorem dd_121_723 : decode (am_b 121) 723 = .ok (.iconst 0, 1) := by decide +kernel
theorem dd_121_724 : decode (am_b 121) 724 = .ok (.ireturn, 1) := by decide +kernel
theorem dd_121_725 : decode (am_b 121) 725 = .ok (.goto 435, 3) := by decide +kernel
theorem dd_121_728 : decode (am_b 121) 728 = .ok (.aload_n 1, 1) := by decide +kernel
theorem dd_121_729 : decode (am_b 121) 729 = .ok (.invokevirtual 107, 3) := by decide +kernel
theorem dd_121_732 : decode (am_b 121) 732 = .ok (.aload_n 2, 1) := by decide +kernel
theorem dd_121_733 : decode (am_b 121) 733 = .ok (.invokevirtual 110, 3) := by decide +kernel
theorem dd_121_736 : decode (am_b 121) 736 = .ok (.if_icmp .eq 424, 3) := by decide +kernel
theorem dd_121_739 : decode (am_b 121) 739 = .ok (.iconst 0, 1) := by decide +kernel
theorem dd_121_740 : decode (am_b 121) 740 = .ok (.ireturn, 1) := by decide +kernel
theorem dd_121_741 : decode (am_b 121) 741 = .ok (.aload_n 1, 1) := by decide +kernel
theorem dd_121_742 : decode (am_b 121) 742 = .ok (.aload_n 0, 1) := by decide +kernel
theorem dd_121_743 : decode (am_b 121) 743 = .ok (.iload 4, 2) := by decide +kernel
theorem dd_121_745 : decode (am_b 121) 745 = .ok (.iconst 1, 1) := by decide +kernel
theorem dd_121_746 : decode (am_b 121) 746 = .ok (.iadd, 1) := by decide +kernel
theorem dd_121_747 : decode (am_b 121) 747 = .ok (.iaload, 1) := by decide +kernel
theorem dd_121_748 : decode (am_b 121) 748 = .ok (.aload_n 0, 1) := by decide +kernel
theorem dd_121_749 : decode (am_b 121) 749 = .ok (.iload 4, 2) := by decide +kernel
theorem dd_121_751 : decode (am_b 121) 751 = .ok (.iconst 2, 1) := by decide +kernel
theorem dd_121_752 : decode (am_b 121) 752 = .ok (.iadd, 1) := by decide +kernel
theorem dd_121_753 : decode (am_b 121) 753 = .ok (.iaload, 1) := by decide +kernel
theorem dd_121_754 : decode (am_b 121) 754 = .ok (.aload_n 3, 1) := by decide +kernel
theorem dd_121_755 : decode (am_b 121) 755 = .ok (.invokestatic 111, 3) := by decide +kernel
theorem dd_121_758 : decode (am_b 121) 758 = .ok (.istore 5, 2) := by decide +kernel
theorem dd_121_760 : decode (am_b 121) 760 = .ok (.aload_n 2, 1) := by decide +kernel
theorem dd_121_761 : decode (am_b 121) 761 = .ok (.aload_n 0, 1) := by decide +kernel
theorem dd_121_762 : decode (am_b 121) 762 = .ok (.iload 4, 2) := by decide +kernel
theorem dd_121_764 : decode (am_b 121) 764 = .ok (.iconst 1, 1) := by decide +kernel
theorem dd_121_765 : decode (am_b 121) 765 = .ok (.iadd, 1) := by decide +kernel
theorem dd_121_766 : decode (am_b 121) 766 = .ok (.iaload, 1) := by decide +kernel
theorem dd_121_767 : decode (am_b 121) 767 = .ok (.aload_n 0, 1) := by decide +kernel
theorem dd_121_768 : decode (am_b 121) 768 = .ok (.iload 4, 2) := by decide +kernel
theorem dd_121_770 : decode (am_b 121) 770 = .ok (.iconst 2, 1) := by decide +kernel
theorem dd_121_771 : decode (am_b 121) 771 = .ok (.iadd, 1) := by decide +kernel
theorem dd_121_772 : decode (am_b 121) 772 = .ok (.iaload, 1) := by decide +kernel
theorem dd_121_773 : decode (am_b 121) 773 = .ok (.invokevirtual 114, 3) := by decide +kernel
theorem dd_121_776 : decode (am_b 121) 776 = .ok (.istore 6, 2) := by decide +kernel
theorem dd_121_778 : decode (am_b 121) 778 = .ok (.aload_n 2, 1) := by decide +kernel
theorem dd_121_779 : decode (am_b 121) 779 = .ok (.invokevirtual 75, 3) := by decide +kernel
theorem dd_121_782 : decode (am_b 121) 782 = .ok (.iload 5, 2) := by decide +kernel
theorem dd_121_784 : decode (am_b 121) 784 = .ok (.if_icmp .eq 5, 3) := by decide +kernel
theorem dd_121_787 : decode (am_b 121) 787 = .ok (.iconst 0, 1) := by decide +kernel
theorem dd_121_788 : decode (am_b 121) 788 = .ok (.ireturn, 1) := by decide +kernel
theorem dd_121_789 : decode (am_b 121) 789 = .ok (.iload 5, 2) := by decide +kernel
theorem dd_121_791 : decode (am_b 121) 791 = .ok (.ifCond .ne 15, 3) := by decide +kernel
theorem dd_121_794 : decode (am_b 121) 794 = .ok (.aload_n 3, 1) := by decide +kernel
theorem dd_121_795 : decode (am_b 121) 795 = .ok (.iconst 0, 1) := by decide +kernel
theorem dd_121_796 : decode (am_b 121) 796 = .ok (.laload, 1) := by decide +kernel
theorem dd_121_797 : decode (am_b 121) 797 = .ok (.iload 6, 2) := by decide +kernel
theorem dd_121_799 : decode (am_b 121) 799 = .ok (.i2l, 1) := by decide +kernel
theorem dd_121_800 : decode (am_b 121) 800 = .ok (.lcmp, 1) := by decide +kernel
theorem dd_121_801 : decode (am_b 121) 801 = .ok (.ifCond .eq 5, 3) := by decide +kernel
theorem dd_121_804 : decode (am_b 121) 804 = .ok (.iconst 0, 1) := by decide +kernel
theorem dd_121_805 : decode (am_b 121) 805 = .ok (.ireturn, 1) := by decide +kernel
theorem dd_121_806 : decode (am_b 121) 806 = .ok (.goto 354, 3) := by decide +kernel
theorem dd_121_809 : decode (am_b 121) 809 = .ok (.aload_n 1, 1) := by decide +kernel
theorem dd_121_810 : decode (am_b 121) 810 = .ok (.aload_n 0, 1) := by decide +kernel
theorem dd_121_811 : decode (am_b 121) 811 = .ok (.iload 4, 2) := by decide +kernel
theorem dd_121_813 : decode (am_b 121) 813 = .ok (.iconst 1, 1) := by decide +kernel
theorem dd_121_814 : decode (am_b 121) 814 = .ok (.iadd, 1) := by decide +kernel
theorem dd_121_815 : decode (am_b 121) 815 = .ok (.iaload, 1) := by decide +kernel
theorem dd_121_816 : decode (am_b 121) 816 = .ok (.ifCond .eq 7, 3) := by decide +kernel
theorem dd_121_819 : decode (am_b 121) 819 = .ok (.iconst 1, 1) := by decide +kernel
theorem dd_121_820 : decode (am_b 121) 820 = .ok (.goto 4, 3) := by decide +kernel
theorem dd_121_823 : decode (am_b 121) 823 = .ok (.iconst 0, 1) := by decide +kernel
theorem dd_121_824 : decode (am_b 121) 824 = .ok (.invokevirtual 115, 3) := by decide +kernel
theorem dd_121_827 : decode (am_b 121) 827 = .ok (.aload_n 2, 1) := by decide +kernel
theorem dd_121_828 : decode (am_b 121) 828 = .ok (.aload_n 0, 1) := by decide +kernel
theorem dd_121_829 : decode (am_b 121) 829 = .ok (.iload 4, 2) := by decide +kernel
theorem dd_121_831 : decode (am_b 121) 831 = .ok (.iconst 1, 1) := by decide +kernel
theorem dd_121_832 : decode (am_b 121) 832 = .ok (.iadd, 1) := by decide +kernel
theorem dd_121_833 : decode (am_b 121) 833 = .ok (.iaload, 1) := by decide +kernel
theorem dd_121_834 : decode (am_b 121) 834 = .ok (.ifCond .eq 7, 3) := by decide +kernel
theorem dd_121_837 : decode (am_b 121) 837 = .ok (.iconst 1, 1) := by decide +kernel
theorem dd_121_838 : decode (am_b 121) 838 = .ok (.goto 4, 3) := by decide +kernel
theorem dd_121_841 : decode (am_b 121) 841 = .ok (.iconst 0, 1) := by decide +kernel
theorem sg_121_667 {sh : am_Sh} {C : Nat → am_M → List am_V → am_O → Prop} {P : am_S ⊕ am_O → Prop} {M : am_M} {x4 : Int32} {x5 : Int32} {x6 : Int32}  (k : P (Sum.inr (M, Sum.inl (some (am_I 0))))) : am_ev sh C 121 (667, [some (am_R (some (31, 0, 0))), some (am_R (some (0, 0, 0))), some (am_R (some (20, 0, 0))), some (am_R (some (30, 0, 0))), some (am_I x4), some (am_I x5), some (am_I x6)], [], M, 1) P := by
  refine am_e_iconst (v := 0) dd_121_667 rfl rfl ?_
  exact am_e_iret dd_121_668 (by decide +kernel) (Or.inr ⟨rfl, Or.inl rfl⟩) k

theorem sg_121_669 {sh : am_Sh} {C : Nat → am_M → List am_V → am_O → Prop} {P : am_S ⊕ am_O → Prop} {M : am_M} {x4 : Int32} {x5 : Int32} {x6 : Int32}  (k : am_ev sh C 121 (1160, [some (am_R (some (31, 0, 0))), some (am_R (some (0, 0, 0))), some (am_R (some (20, 0, 0))), some (am_R (some (30, 0, 0))), some (am_I x4), some (am_I x5), some (am_I x6)], [], M, 1) P) : am_ev sh C 121 (669, [some (am_R (some (31, 0, 0))), some (am_R (some (0, 0, 0))), some (am_R (some (20, 0, 0))), some (am_R (some (30, 0, 0))), some (am_I x4), some (am_I x5), some (am_I x6)], [], M, 1) P := by
  refine am_e_goto (pc' := 1160) dd_121_669 rfl ?_
  exact k

theorem sg_121_672 {sh : am_Sh} {C : Nat → am_M → List am_V → am_O → Prop} {P : am_S ⊕ am_O → Prop} {M : am_M} {x4 : Int32} {u5 : Option am_V} {u6 : Option am_V} {j1 : Nat} {M1 : am_M} {r1 : Int32} {M2 : am_M} {r2 : Int32} {M3 : am_M} {r3 : Int32} (hL : sh.2.2.2 < 2147483648) (hx_j1 : x4 + 1 = nI j1) (hl_j1 : j1 < sh.2.2.2) (hc1 : C 115 M [am_R (some (0, 0, 0)), am_I (M (31, 0, 0) j1), am_R (some (30, 0, 0))] (M1, Sum.inl (some (am_I r1)))) (hc2 : C 97 M1 [am_R (some (20, 0, 0)), am_I (M1 (31, 0, 0) j1)] (M2, Sum.inl (some (am_I r2)))) (hc3 : C 60 M2 [am_R (some (20, 0, 0))] (M3, Sum.inl (some (am_I r3)))) (k1 : r3 = r1 → am_ev sh C 121 (708, [some (am_R (some (31, 0, 0))), some (am_R (some (0, 0, 0))), some (am_R (some (20, 0, 0))), some (am_R (some (30, 0, 0))), some (am_I x4), some (am_I r1), some (am_I r2)], [], M3, 1) P) (k2 : ¬ r3 = r1 → am_ev sh C 121 (706, [some (am_R (some (31, 0, 0))), some (am_R (some (0, 0, 0))), some (am_R (some (20, 0, 0))), some (am_R (some (30, 0, 0))), some (am_I x4), some (am_I r1), some (am_I r2)], [], M3, 1) P) : am_ev sh C 121 (672, [some (am_R (some (31, 0, 0))), some (am_R (some (0, 0, 0))), some (am_R (some (20, 0, 0))), some (am_R (some (30, 0, 0))), some (am_I x4), u5, u6], [], M, 0) P := by
  refine am_e_aload_n dd_121_672 rfl rfl ?_
  refine am_e_aload_n dd_121_673 rfl rfl ?_
  refine am_e_iload dd_121_674 rfl rfl ?_
  refine am_e_iconst (v := 1) dd_121_676 rfl rfl ?_
  refine am_e_iadd dd_121_677 rfl ?_
  refine am_a_sald dd_121_678 rfl hx_j1 hl_j1 hL rfl ?_
  refine am_e_aload_n dd_121_679 rfl rfl ?_
  refine am_e_callS (c := 115) (k := 3) (as := [am_R (some (0, 0, 0)), am_I (M (31, 0, 0) j1), am_R (some (30, 0, 0))]) (S' := [am_I r1]) (v := some (am_I r1)) (M' := M1) (n' := 1) dd_121_680 (by decide +kernel) (by decide +kernel) ⟨Nat.le_of_ble_eq_true rfl, Nat.le_of_ble_eq_true rfl, by decide +kernel, (Or.inl rfl)⟩ rfl rfl (by decide +kernel) hc1 rfl ?_
  refine am_e_istore dd_121_683 (Nat.le_of_ble_eq_true rfl) rfl rfl ?_
  refine am_e_aload_n dd_121_685 rfl rfl ?_
  refine am_e_aload_n dd_121_686 rfl rfl ?_
  refine am_e_iload dd_121_687 rfl rfl ?_
  refine am_e_iconst (v := 1) dd_121_689 rfl rfl ?_
  refine am_e_iadd dd_121_690 rfl ?_
  refine am_a_sald dd_121_691 rfl hx_j1 hl_j1 hL rfl ?_
  refine am_e_callV (c := 97) (k := 2) (as := [am_R (some (20, 0, 0)), am_I (M1 (31, 0, 0) j1)]) (S' := [am_I r2]) (v := some (am_I r2)) (M' := M2) (n' := 1) dd_121_692 (by decide +kernel) ⟨Nat.le_of_ble_eq_true rfl, Nat.le_of_ble_eq_true rfl, by decide +kernel, (Or.inr (am_rcv_of rfl))⟩ rfl rfl (by decide +kernel) hc2 rfl ?_
  refine am_e_istore dd_121_695 (Nat.le_of_ble_eq_true rfl) rfl rfl ?_
  refine am_e_aload_n dd_121_697 rfl rfl ?_
  refine am_e_callV (c := 60) (k := 1) (as := [am_R (some (20, 0, 0))]) (S' := [am_I r3]) (v := some (am_I r3)) (M' := M3) (n' := 1) dd_121_698 (by decide +kernel) ⟨Nat.le_of_ble_eq_true rfl, Nat.le_of_ble_eq_true rfl, by decide +kernel, (Or.inr (am_rcv_of rfl))⟩ rfl rfl (by decide +kernel) hc3 rfl ?_
  refine am_e_iload dd_121_701 rfl rfl ?_
  exact am_a_icmp_eq (tgt := 708) (pc' := 706) dd_121_703 rfl rfl k1 k2

theorem sg_121_706 {sh : am_Sh} {C : Nat → am_M → List am_V → am_O → Prop} {P : am_S ⊕ am_O → Prop} {M : am_M} {x4 : Int32} {x5 : Int32} {x6 : Int32}  (k : P (Sum.inr (M, Sum.inl (some (am_I 0))))) : am_ev sh C 121 (706, [some (am_R (some (31, 0, 0))), some (am_R (some (0, 0, 0))), some (am_R (some (20, 0, 0))), some (am_R (some (30, 0, 0))), some (am_I x4), some (am_I x5), some (am_I x6)], [], M, 1) P := by
  refine am_e_iconst (v := 0) dd_121_706 rfl rfl ?_
  exact am_e_iret dd_121_707 (by decide +kernel) (Or.inr ⟨rfl, Or.inl rfl⟩) k

theorem sg_121_708 {sh : am_Sh} {C : Nat → am_M → List am_V → am_O → Prop} {P : am_S ⊕ am_O → Prop} {M : am_M} {x4 : Int32} {x5 : Int32} {x6 : Int32}  (k1 : ¬ x5 = 0 → am_ev sh C 121 (725, [some (am_R (some (31, 0, 0))), some (am_R (some (0, 0, 0))), some (am_R (some (20, 0, 0))), some (am_R (some (30, 0, 0))), some (am_I x4), some (am_I x5), some (am_I x6)], [], M, 1) P) (k2 : x5 = 0 → am_ev sh C 121 (713, [some (am_R (some (31, 0, 0))), some (am_R (some (0, 0, 0))), some (am_R (some (20, 0, 0))), some (am_R (some (30, 0, 0))), some (am_I x4), some (am_I x5), some (am_I x6)], [], M, 1) P) : am_ev sh C 121 (708, [some (am_R (some (31, 0, 0))), some (am_R (some (0, 0, 0))), some (am_R (some (20, 0, 0))), some (am_R (some (30, 0, 0))), some (am_I x4), some (am_I x5), some (am_I x6)], [], M, 1) P := by
  refine am_e_iload dd_121_708 rfl rfl ?_
  exact am_a_if_ne (tgt := 725) (pc' := 713) dd_121_710 rfl rfl k1 k2

theorem sg_121_713 {sh : am_Sh} {C : Nat → am_M → List am_V → am_O → Prop} {P : am_S ⊕ am_O → Prop} {M : am_M} {x4 : Int32} {x5 : Int32} {x6 : Int32}  (k1 : (lg_cmp (M (30, 0, 0) 0).toInt64 (x6).toInt64) = 0 → am_ev sh C 121 (725, [some (am_R (some (31, 0, 0))), some (am_R (some (0, 0, 0))), some (am_R (some (20, 0, 0))), some (am_R (some (30, 0, 0))), some (am_I x4), some (am_I x5), some (am_I x6)], [], M, 1) P) (k2 : ¬ (lg_cmp (M (30, 0, 0) 0).toInt64 (x6).toInt64) = 0 → am_ev sh C 121 (723, [some (am_R (some (31, 0, 0))), some (am_R (some (0, 0, 0))), some (am_R (some (20, 0, 0))), some (am_R (some (30, 0, 0))), some (am_I x4), some (am_I x5), some (am_I x6)], [], M, 1) P) : am_ev sh C 121 (713, [some (am_R (some (31, 0, 0))), some (am_R (some (0, 0, 0))), some (am_R (some (20, 0, 0))), some (am_R (some (30, 0, 0))), some (am_I x4), some (am_I x5), some (am_I x6)], [], M, 1) P := by
  refine am_e_aload_n dd_121_713 rfl rfl ?_
  refine am_e_iconst (v := 0) dd_121_714 rfl rfl ?_
  refine am_a_lald dd_121_715 rfl rfl (by decide) (by decide) rfl ?_
  refine am_e_iload dd_121_716 rfl rfl ?_
  refine am_e_i2l dd_121_718 rfl ?_
  refine am_e_lcmp dd_121_719 rfl ?_
  exact am_a_if_eq (tgt := 725) (pc' := 723) dd_121_720 rfl rfl k1 k2

theorem sg_121_723 {sh : am_Sh} {C : Nat → am_M → List am_V → am_O → Prop} {P : am_S ⊕ am_O → Prop} {M : am_M} {x4 : Int32} {x5 : Int32} {x6 : Int32}  (k : P (Sum.inr (M, Sum.inl (some (am_I 0))))) : am_ev sh C 121 (723, [some (am_R (some (31, 0, 0))), some (am_R (some (0, 0, 0))), some (am_R (some (20, 0, 0))), some (am_R (some (30, 0, 0))), some (am_I x4), some (am_I x5), some (am_I x6)], [], M, 1) P := by
  refine am_e_iconst (v := 0) dd_121_723 rfl rfl ?_
  exact am_e_iret dd_121_724 (by decide +kernel) (Or.inr ⟨rfl, Or.inl rfl⟩) k

theorem sg_121_725 {sh : am_Sh} {C : Nat → am_M → List am_V → am_O → Prop} {P : am_S ⊕ am_O → Prop} {M : am_M} {x4 : Int32} {x5 : Int32} {x6 : Int32}  (k : am_ev sh C 121 (1160, [some (am_R (some (31, 0, 0))), some (am_R (some (0, 0, 0))), some (am_R (some (20, 0, 0))), some (am_R (some (30, 0, 0))), some (am_I x4), some (am_I x5), some (am_I x6)], [], M, 1) P) : am_ev sh C 121 (725, [some (am_R (some (31, 0, 0))), some (am_R (some (0, 0, 0))), some (am_R (some (20, 0, 0))), some (am_R (some (30, 0, 0))), some (am_I x4), some (am_I x5), some (am_I x6)], [], M, 1) P := by
  refine am_e_goto (pc' := 1160) dd_121_725 rfl ?_
  exact k

theorem sg_121_728 {sh : am_Sh} {C : Nat → am_M → List am_V → am_O → Prop} {P : am_S ⊕ am_O → Prop} {M : am_M} {x4 : Int32} {u5 : Option am_V} {u6 : Option am_V} {M1 : am_M} {r1 : Int32} {M2 : am_M} {r2 : Int32} (hc1 : C 17 M [am_R (some (0, 0, 0))] (M1, Sum.inl (some (am_I r1)))) (hc2 : C 98 M1 [am_R (some (20, 0, 0))] (M2, Sum.inl (some (am_I r2)))) (k1 : r1 = r2 → am_ev sh C 121 (1160, [some (am_R (some (31, 0, 0))), some (am_R (some (0, 0, 0))), some (am_R (some (20, 0, 0))), some (am_R (some (30, 0, 0))), some (am_I x4), u5, u6], [], M2, 0) P) (k2 : ¬ r1 = r2 → am_ev sh C 121 (739, [some (am_R (some (31, 0, 0))), some (am_R (some (0, 0, 0))), some (am_R (some (20, 0, 0))), some (am_R (some (30, 0, 0))), some (am_I x4), u5, u6], [], M2, 0) P) : am_ev sh C 121 (728, [some (am_R (some (31, 0, 0))), some (am_R (some (0, 0, 0))), some (am_R (some (20, 0, 0))), some (am_R (some (30, 0, 0))), some (am_I x4), u5, u6], [], M, 0) P := by
  refine am_e_aload_n dd_121_728 rfl rfl ?_
  refine am_e_callV (c := 17) (k := 1) (as := [am_R (some (0, 0, 0))]) (S' := [am_I r1]) (v := some (am_I r1)) (M' := M1) (n' := 0) dd_121_729 (by decide +kernel) ⟨Nat.le_of_ble_eq_true rfl, Nat.le_of_ble_eq_true rfl, by decide +kernel, (Or.inr (am_rcv_of rfl))⟩ rfl rfl (by decide +kernel) hc1 rfl ?_
  refine am_e_aload_n dd_121_732 rfl rfl ?_
  refine am_e_callV (c := 98) (k := 1) (as := [am_R (some (20, 0, 0))]) (S' := [am_I r2, am_I r1]) (v := some (am_I r2)) (M' := M2) (n' := 0) dd_121_733 (by decide +kernel) ⟨Nat.le_of_ble_eq_true rfl, Nat.le_of_ble_eq_true rfl, by decide +kernel, (Or.inr (am_rcv_of rfl))⟩ rfl rfl (by decide +kernel) hc2 rfl ?_
  exact am_a_icmp_eq (tgt := 1160) (pc' := 739) dd_121_736 rfl rfl k1 k2

theorem sg_121_739 {sh : am_Sh} {C : Nat → am_M → List am_V → am_O → Prop} {P : am_S ⊕ am_O → Prop} {M : am_M} {x4 : Int32} {u5 : Option am_V} {u6 : Option am_V}  (k : P (Sum.inr (M, Sum.inl (some (am_I 0))))) : am_ev sh C 121 (739, [some (am_R (some (31, 0, 0))), some (am_R (some (0, 0, 0))), some (am_R (some (20, 0, 0))), some (am_R (some (30, 0, 0))), some (am_I x4), u5, u6], [], M, 0) P := by
  refine am_e_iconst (v := 0) dd_121_739 rfl rfl ?_
  exact am_e_iret dd_121_740 (by decide +kernel) (Or.inr ⟨rfl, Or.inl rfl⟩) k

theorem sg_121_741 {sh : am_Sh} {C : Nat → am_M → List am_V → am_O → Prop} {P : am_S ⊕ am_O → Prop} {M : am_M} {x4 : Int32} {u5 : Option am_V} {u6 : Option am_V} {j1 : Nat} {j2 : Nat} {M1 : am_M} {r1 : Int32} {M2 : am_M} {r2 : Int32} {M3 : am_M} {r3 : Int32} (hL : sh.2.2.2 < 2147483648) (hx_j1 : x4 + 1 = nI j1) (hl_j1 : j1 < sh.2.2.2) (hx_j2 : x4 + 2 = nI j2) (hl_j2 : j2 < sh.2.2.2) (hc1 : C 116 M [am_R (some (0, 0, 0)), am_I (M (31, 0, 0) j1), am_I (M (31, 0, 0) j2), am_R (some (30, 0, 0))] (M1, Sum.inl (some (am_I r1)))) (hc2 : C 99 M1 [am_R (some (20, 0, 0)), am_I (M1 (31, 0, 0) j1), am_I (M1 (31, 0, 0) j2)] (M2, Sum.inl (some (am_I r2)))) (hc3 : C 60 M2 [am_R (some (20, 0, 0))] (M3, Sum.inl (some (am_I r3)))) (k1 : r3 = r1 → am_ev sh C 121 (789, [some (am_R (some (31, 0, 0))), some (am_R (some (0, 0, 0))), some (am_R (some (20, 0, 0))), some (am_R (some (30, 0, 0))), some (am_I x4), some (am_I r1), some (am_I r2)], [], M3, 2) P) (k2 : ¬ r3 = r1 → am_ev sh C 121 (787, [some (am_R (some (31, 0, 0))), some (am_R (some (0, 0, 0))), some (am_R (some (20, 0, 0))), some (am_R (some (30, 0, 0))), some (am_I x4), some (am_I r1), some (am_I r2)], [], M3, 2) P) : am_ev sh C 121 (741, [some (am_R (some (31, 0, 0))), some (am_R (some (0, 0, 0))), some (am_R (some (20, 0, 0))), some (am_R (some (30, 0, 0))), some (am_I x4), u5, u6], [], M, 0) P := by
  refine am_e_aload_n dd_121_741 rfl rfl ?_
  refine am_e_aload_n dd_121_742 rfl rfl ?_
  refine am_e_iload dd_121_743 rfl rfl ?_
  refine am_e_iconst (v := 1) dd_121_745 rfl rfl ?_
  refine am_e_iadd dd_121_746 rfl ?_
  refine am_a_sald dd_121_747 rfl hx_j1 hl_j1 hL rfl ?_
  refine am_e_aload_n dd_121_748 rfl rfl ?_
  refine am_e_iload dd_121_749 rfl rfl ?_
  refine am_e_iconst (v := 2) dd_121_751 rfl rfl ?_
  refine am_e_iadd dd_121_752 rfl ?_
  refine am_a_sald dd_121_753 rfl hx_j2 hl_j2 hL rfl ?_
  refine am_e_aload_n dd_121_754 rfl rfl ?_
  refine am_e_callS (c := 116) (k := 4) (as := [am_R (some (0, 0, 0)), am_I (M (31, 0, 0) j1), am_I (M (31, 0, 0) j2), am_R (some (30, 0, 0))]) (S' := [am_I r1]) (v := some (am_I r1)) (M' := M1) (n' := 2) dd_121_755 (by decide +kernel) (by decide +kernel) ⟨Nat.le_of_ble_eq_true rfl, Nat.le_of_ble_eq_true rfl, by decide +kernel, (Or.inl rfl)⟩ rfl rfl (by decide +kernel) hc1 rfl ?_
  refine am_e_istore dd_121_758 (Nat.le_of_ble_eq_true rfl) rfl rfl ?_
  refine am_e_aload_n dd_121_760 rfl rfl ?_
  refine am_e_aload_n dd_121_761 rfl rfl ?_
  refine am_e_iload dd_121_762 rfl rfl ?_
  refine am_e_iconst (v := 1) dd_121_764 rfl rfl ?_
  refine am_e_iadd dd_121_765 rfl ?_
  refine am_a_sald dd_121_766 rfl hx_j1 hl_j1 hL rfl ?_
  refine am_e_aload_n dd_121_767 rfl rfl ?_
  refine am_e_iload dd_121_768 rfl rfl ?_
  refine am_e_iconst (v := 2) dd_121_770 rfl rfl ?_
  refine am_e_iadd dd_121_771 rfl ?_
  refine am_a_sald dd_121_772 rfl hx_j2 hl_j2 hL rfl ?_
  refine am_e_callV (c := 99) (k := 3) (as := [am_R (some (20, 0, 0)), am_I (M1 (31, 0, 0) j1), am_I (M1 (31, 0, 0) j2)]) (S' := [am_I r2]) (v := some (am_I r2)) (M' := M2) (n' := 2) dd_121_773 (by decide +kernel) ⟨Nat.le_of_ble_eq_true rfl, Nat.le_of_ble_eq_true rfl, by decide +kernel, (Or.inr (am_rcv_of rfl))⟩ rfl rfl (by decide +kernel) hc2 rfl ?_
  refine am_e_istore dd_121_776 (Nat.le_of_ble_eq_true rfl) rfl rfl ?_
  refine am_e_aload_n dd_121_778 rfl rfl ?_
  refine am_e_callV (c := 60) (k := 1) (as := [am_R (some (20, 0, 0))]) (S' := [am_I r3]) (v := some (am_I r3)) (M' := M3) (n' := 2) dd_121_779 (by decide +kernel) ⟨Nat.le_of_ble_eq_true rfl, Nat.le_of_ble_eq_true rfl, by decide +kernel, (Or.inr (am_rcv_of rfl))⟩ rfl rfl (by decide +kernel) hc3 rfl ?_
  refine am_e_iload dd_121_782 rfl rfl ?_
  exact am_a_icmp_eq (tgt := 789) (pc' := 787) dd_121_784 rfl rfl k1 k2

theorem sg_121_787 {sh : am_Sh} {C : Nat → am_M → List am_V → am_O → Prop} {P : am_S ⊕ am_O → Prop} {M : am_M} {x4 : Int32} {x5 : Int32} {x6 : Int32}  (k : P (Sum.inr (M, Sum.inl (some (am_I 0))))) : am_ev sh C 121 (787, [some (am_R (some (31, 0, 0))), some (am_R (some (0, 0, 0))), some (am_R (some (20, 0, 0))), some (am_R (some (30, 0, 0))), some (am_I x4), some (am_I x5), some (am_I x6)], [], M, 2) P := by
  refine am_e_iconst (v := 0) dd_121_787 rfl rfl ?_
  exact am_e_iret dd_121_788 (by decide +kernel) (Or.inr ⟨rfl, Or.inl rfl⟩) k

theorem sg_121_789 {sh : am_Sh} {C : Nat → am_M → List am_V → am_O → Prop} {P : am_S ⊕ am_O → Prop} {M : am_M} {x4 : Int32} {x5 : Int32} {x6 : Int32}  (k1 : ¬ x5 = 0 → am_ev sh C 121 (806, [some (am_R (some (31, 0, 0))), some (am_R (some (0, 0, 0))), some (am_R (some (20, 0, 0))), some (am_R (some (30, 0, 0))), some (am_I x4), some (am_I x5), some (am_I x6)], [], M, 2) P) (k2 : x5 = 0 → am_ev sh C 121 (794, [some (am_R (some (31, 0, 0))), some (am_R (some (0, 0, 0))), some (am_R (some (20, 0, 0))), some (am_R (some (30, 0, 0))), some (am_I x4), some (am_I x5), some (am_I x6)], [], M, 2) P) : am_ev sh C 121 (789, [some (am_R (some (31, 0, 0))), some (am_R (some (0, 0, 0))), some (am_R (some (20, 0, 0))), some (am_R (some (30, 0, 0))), some (am_I x4), some (am_I x5), some (am_I x6)], [], M, 2) P := by
  refine am_e_iload dd_121_789 rfl rfl ?_
  exact am_a_if_ne (tgt := 806) (pc' := 794) dd_121_791 rfl rfl k1 k2

theorem sg_121_794 {sh : am_Sh} {C : Nat → am_M → List am_V → am_O → Prop} {P : am_S ⊕ am_O → Prop} {M : am_M} {x4 : Int32} {x5 : Int32} {x6 : Int32}  (k1 : (lg_cmp (M (30, 0, 0) 0).toInt64 (x6).toInt64) = 0 → am_ev sh C 121 (806, [some (am_R (some (31, 0, 0))), some (am_R (some (0, 0, 0))), some (am_R (some (20, 0, 0))), some (am_R (some (30, 0, 0))), some (am_I x4), some (am_I x5), some (am_I x6)], [], M, 2) P) (k2 : ¬ (lg_cmp (M (30, 0, 0) 0).toInt64 (x6).toInt64) = 0 → am_ev sh C 121 (804, [some (am_R (some (31, 0, 0))), some (am_R (some (0, 0, 0))), some (am_R (some (20, 0, 0))), some (am_R (some (30, 0, 0))), some (am_I x4), some (am_I x5), some (am_I x6)], [], M, 2) P) : am_ev sh C 121 (794, [some (am_R (some (31, 0, 0))), some (am_R (some (0, 0, 0))), some (am_R (some (20, 0, 0))), some (am_R (some (30, 0, 0))), some (am_I x4), some (am_I x5), some (am_I x6)], [], M, 2) P := by
  refine am_e_aload_n dd_121_794 rfl rfl ?_
  refine am_e_iconst (v := 0) dd_121_795 rfl rfl ?_
  refine am_a_lald dd_121_796 rfl rfl (by decide) (by decide) rfl ?_
  refine am_e_iload dd_121_797 rfl rfl ?_
  refine am_e_i2l dd_121_799 rfl ?_
  refine am_e_lcmp dd_121_800 rfl ?_
  exact am_a_if_eq (tgt := 806) (pc' := 804) dd_121_801 rfl rfl k1 k2

theorem sg_121_804 {sh : am_Sh} {C : Nat → am_M → List am_V → am_O → Prop} {P : am_S ⊕ am_O → Prop} {M : am_M} {x4 : Int32} {x5 : Int32} {x6 : Int32}  (k : P (Sum.inr (M, Sum.inl (some (am_I 0))))) : am_ev sh C 121 (804, [some (am_R (some (31, 0, 0))), some (am_R (some (0, 0, 0))), some (am_R (some (20, 0, 0))), some (am_R (some (30, 0, 0))), some (am_I x4), some (am_I x5), some (am_I x6)], [], M, 2) P := by
  refine am_e_iconst (v := 0) dd_121_804 rfl rfl ?_
  exact am_e_iret dd_121_805 (by decide +kernel) (Or.inr ⟨rfl, Or.inl rfl⟩) k

theorem sg_121_806 {sh : am_Sh} {C : Nat → am_M → List am_V → am_O → Prop} {P : am_S ⊕ am_O → Prop} {M : am_M} {x4 : Int32} {x5 : Int32} {x6 : Int32}  (k : am_ev sh C 121 (1160, [some (am_R (some (31, 0, 0))), some (am_R (some (0, 0, 0))), some (am_R (some (20, 0, 0))), some (am_R (some (30, 0, 0))), some (am_I x4), some (am_I x5), some (am_I x6)], [], M, 2) P) : am_ev sh C 121 (806, [some (am_R (some (31, 0, 0))), some (am_R (some (0, 0, 0))), some (am_R (some (20, 0, 0))), some (am_R (some (30, 0, 0))), some (am_I x4), some (am_I x5), some (am_I x6)], [], M, 2) P := by
  refine am_e_goto (pc' := 1160) dd_121_806 rfl ?_
  exact k

theorem sg_121_809 {sh : am_Sh} {C : Nat → am_M → List am_V → am_O → Prop} {P : am_S ⊕ am_O → Prop} {M : am_M} {x4 : Int32} {u5 : Option am_V} {u6 : Option am_V} {j1 : Nat} (hL : sh.2.2.2 < 2147483648) (hx_j1 : x4 + 1 = nI j1) (hl_j1 : j1 < sh.2.2.2) (k1 : (M (31, 0, 0) j1) = 0 → am_ev sh C 121 (823, [some (am_R (some (31, 0, 0))), some (am_R (some (0, 0, 0))), some (am_R (some (20, 0, 0))), some (am_R (some (30, 0, 0))), some (am_I x4), u5, u6], [am_R (some (0, 0, 0))], M, 0) P) (k2 : ¬ (M (31, 0, 0) j1) = 0 → am_ev sh C 121 (819, [some (am_R (some (31, 0, 0))), some (am_R (some (0, 0, 0))), some (am_R (some (20, 0, 0))), some (am_R (some (30, 0, 0))), some (am_I x4), u5, u6], [am_R (some (0, 0, 0))], M, 0) P) : am_ev sh C 121 (809, [some (am_R (some (31, 0, 0))), some (am_R (some (0, 0, 0))), some (am_R (some (20, 0, 0))), some (am_R (some (30, 0, 0))), some (am_I x4), u5, u6], [], M, 0) P := by
  refine am_e_aload_n dd_121_809 rfl rfl ?_
  refine am_e_aload_n dd_121_810 rfl rfl ?_
  refine am_e_iload dd_121_811 rfl rfl ?_
  refine am_e_iconst (v := 1) dd_121_813 rfl rfl ?_
  refine am_e_iadd dd_121_814 rfl ?_
  refine am_a_sald dd_121_815 rfl hx_j1 hl_j1 hL rfl ?_
  exact am_a_if_eq (tgt := 823) (pc' := 819) dd_121_816 rfl rfl k1 k2

theorem sg_121_819 {sh : am_Sh} {C : Nat → am_M → List am_V → am_O → Prop} {P : am_S ⊕ am_O → Prop} {M : am_M} {x4 : Int32} {u5 : Option am_V} {u6 : Option am_V}  (k : am_ev sh C 121 (824, [some (am_R (some (31, 0, 0))), some (am_R (some (0, 0, 0))), some (am_R (some (20, 0, 0))), some (am_R (some (30, 0, 0))), some (am_I x4), u5, u6], [am_I 1, am_R (some (0, 0, 0))], M, 0) P) : am_ev sh C 121 (819, [some (am_R (some (31, 0, 0))), some (am_R (some (0, 0, 0))), some (am_R (some (20, 0, 0))), some (am_R (some (30, 0, 0))), some (am_I x4), u5, u6], [am_R (some (0, 0, 0))], M, 0) P := by
  refine am_e_iconst (v := 1) dd_121_819 rfl rfl ?_
  refine am_e_goto (pc' := 824) dd_121_820 rfl ?_
  exact k

theorem sg_121_823 {sh : am_Sh} {C : Nat → am_M → List am_V → am_O → Prop} {P : am_S ⊕ am_O → Prop} {M : am_M} {x4 : Int32} {u5 : Option am_V} {u6 : Option am_V}  (k : am_ev sh C 121 (824, [some (am_R (some (31, 0, 0))), some (am_R (some (0, 0, 0))), some (am_R (some (20, 0, 0))), some (am_R (some (30, 0, 0))), some (am_I x4), u5, u6], [am_I 0, am_R (some (0, 0, 0))], M, 0) P) : am_ev sh C 121 (823, [some (am_R (some (31, 0, 0))), some (am_R (some (0, 0, 0))), some (am_R (some (20, 0, 0))), some (am_R (some (30, 0, 0))), some (am_I x4), u5, u6], [am_R (some (0, 0, 0))], M, 0) P := by
  refine am_e_iconst (v := 0) dd_121_823 rfl rfl ?_
  exact k

theorem sg_121_824 {sh : am_Sh} {C : Nat → am_M → List am_V → am_O → Prop} {P : am_S ⊕ am_O → Prop} {M : am_M} {x4 : Int32} {u5 : Option am_V} {u6 : Option am_V} {xs1 : Int32} {M1 : am_M} {r1 : Int32} {j1 : Nat} (hc1 : C 20 M [am_R (some (0, 0, 0)), am_I xs1] (M1, Sum.inl (some (am_I r1)))) (hL : sh.2.2.2 < 2147483648) (hx_j1 : x4 + 1 = nI j1) (hl_j1 : j1 < sh.2.2.2) (k1 : (M1 (31, 0, 0) j1) = 0 → am_ev sh C 121 (841, [some (am_R (some (31, 0, 0))), some (am_R (some (0, 0, 0))), some (am_R (some (20, 0, 0))), some (am_R (some (30, 0, 0))), some (am_I x4), u5, u6], [am_R (some (20, 0, 0)), am_I r1], M1, 0) P) (k2 : ¬ (M1 (31, 0, 0) j1) = 0 → am_ev sh C 121 (837, [some (am_R (some (31, 0, 0))), some (am_R (some (0, 0, 0))), some (am_R (some (20, 0, 0))), some (am_R (some (30, 0, 0))), some (am_I x4), u5, u6], [am_R (some (20, 0, 0)), am_I r1], M1, 0) P) : am_ev sh C 121 (824, [some (am_R (some (31, 0, 0))), some (am_R (some (0, 0, 0))), some (am_R (some (20, 0, 0))), some (am_R (some (30, 0, 0))), some (am_I x4), u5, u6], [am_I xs1, am_R (some (0, 0, 0))], M, 0) P := by
  refine am_e_callV (c := 20) (k := 2) (as := [am_R (some (0, 0, 0)), am_I xs1]) (S' := [am_I r1]) (v := some (am_I r1)) (M' := M1) (n' := 0) dd_121_824 (by decide +kernel) ⟨Nat.le_of_ble_eq_true rfl, Nat.le_of_ble_eq_true rfl, by decide +kernel, (Or.inr (am_rcv_of rfl))⟩ rfl rfl (by decide +kernel) hc1 rfl ?_
  refine am_e_aload_n dd_121_827 rfl rfl ?_
  refine am_e_aload_n dd_121_828 rfl rfl ?_
  refine am_e_iload dd_121_829 rfl rfl ?_
  refine am_e_iconst (v := 1) dd_121_831 rfl rfl ?_
  refine am_e_iadd dd_121_832 rfl ?_
  refine am_a_sald dd_121_833 rfl hx_j1 hl_j1 hL rfl ?_
  exact am_a_if_eq (tgt := 841) (pc' := 837) dd_121_834 rfl rfl k1 k2

theorem sg_121_837 {sh : am_Sh} {C : Nat → am_M → List am_V → am_O → Prop} {P : am_S ⊕ am_O → Prop} {M : am_M} {x4 : Int32} {u5 : Option am_V} {u6 : Option am_V} {xs0 : Int32}  (k : am_ev sh C 121 (842, [some (am_R (some (31, 0, 0))), some (am_R (some (0, 0, 0))), some (am_R (some (20, 0, 0))), some (am_R (some (30, 0, 0))), some (am_I x4), u5, u6], [am_I 1, am_R (some (20, 0, 0)), am_I xs0], M, 0) P) : am_ev sh C 121 (837, [some (am_R (some (31, 0, 0))), some (am_R (some (0, 0, 0))), some (am_R (some (20, 0, 0))), some (am_R (some (30, 0, 0))), some (am_I x4), u5, u6], [am_R (some (20, 0, 0)), am_I xs0], M, 0) P := by
  refine am_e_iconst (v := 1) dd_121_837 rfl rfl ?_
  refine am_e_goto (pc' := 842) dd_121_838 rfl ?_
  exact k

theorem sg_121_841 {sh : am_Sh} {C : Nat → am_M → List am_V → am_O → Prop} {P : am_S ⊕ am_O → Prop} {M : am_M} {x4 : Int32} {u5 : Option am_V} {u6 : Option am_V} {xs0 : Int32}  (k : am_ev sh C 121 (842, [some (am_R (some (31, 0, 0))), some (am_R (some (0, 0, 0))), some (am_R (some (20, 0, 0))), some (am_R (some (30, 0, 0))), some (am_I x4), u5, u6], [am_I 0, am_R (some (20, 0, 0)), am_I xs0], M, 0) P) : am_ev sh C 121 (841, [some (am_R (some (31, 0, 0))), some (am_R (some (0, 0, 0))), some (am_R (some (20, 0, 0))), some (am_R (some (30, 0, 0))), some (am_I x4), u5, u6], [am_R (some (20, 0, 0)), am_I xs0], M, 0) P := by
  refine am_e_iconst (v := 0) dd_121_841 rfl rfl ?_
  exact k

