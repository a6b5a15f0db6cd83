-- the law, its loop (2)
theorem dd_121_482 : decode (am_b 121) 482 = .ok (.iconst 0, 1) := by decide +kernel
theorem dd_121_483 : decode (am_b 121) 483 = .ok (.ireturn, 1) := by decide +kernel
theorem dd_121_484 : decode (am_b 121) 484 = .ok (.iload 5, 2) := by decide +kernel
theorem dd_121_486 : decode (am_b 121) 486 = .ok (.ifCond .ne 15, 3) := by decide +kernel
theorem dd_121_489 : decode (am_b 121) 489 = .ok (.aload_n 3, 1) := by decide +kernel
theorem dd_121_490 : decode (am_b 121) 490 = .ok (.iconst 0, 1) := by decide +kernel
theorem dd_121_491 : decode (am_b 121) 491 = .ok (.laload, 1) := by decide +kernel
theorem dd_121_492 : decode (am_b 121) 492 = .ok (.iload 6, 2) := by decide +kernel
theorem dd_121_494 : decode (am_b 121) 494 = .ok (.i2l, 1) := by decide +kernel
theorem dd_121_495 : decode (am_b 121) 495 = .ok (.lcmp, 1) := by decide +kernel
theorem dd_121_496 : decode (am_b 121) 496 = .ok (.ifCond .eq 5, 3) := by decide +kernel
theorem dd_121_499 : decode (am_b 121) 499 = .ok (.iconst 0, 1) := by decide +kernel
theorem dd_121_500 : decode (am_b 121) 500 = .ok (.ireturn, 1) := by decide +kernel
theorem dd_121_501 : decode (am_b 121) 501 = .ok (.goto 659, 3) := by decide +kernel
theorem dd_121_504 : decode (am_b 121) 504 = .ok (.aload_n 1, 1) := by decide +kernel
theorem dd_121_505 : decode (am_b 121) 505 = .ok (.aload_n 0, 1) := by decide +kernel
theorem dd_121_506 : decode (am_b 121) 506 = .ok (.iload 4, 2) := by decide +kernel
theorem dd_121_508 : decode (am_b 121) 508 = .ok (.iconst 1, 1) := by decide +kernel
theorem dd_121_509 : decode (am_b 121) 509 = .ok (.iadd, 1) := by decide +kernel
theorem dd_121_510 : decode (am_b 121) 510 = .ok (.iaload, 1) := by decide +kernel
theorem dd_121_511 : decode (am_b 121) 511 = .ok (.aload_n 3, 1) := by decide +kernel
theorem dd_121_512 : decode (am_b 121) 512 = .ok (.invokestatic 95, 3) := by decide +kernel
theorem dd_121_515 : decode (am_b 121) 515 = .ok (.istore 5, 2) := by decide +kernel
theorem dd_121_517 : decode (am_b 121) 517 = .ok (.aload_n 2, 1) := by decide +kernel
theorem dd_121_518 : decode (am_b 121) 518 = .ok (.aload_n 0, 1) := by decide +kernel
theorem dd_121_519 : decode (am_b 121) 519 = .ok (.iload 4, 2) := by decide +kernel
theorem dd_121_521 : decode (am_b 121) 521 = .ok (.iconst 1, 1) := by decide +kernel
theorem dd_121_522 : decode (am_b 121) 522 = .ok (.iadd, 1) := by decide +kernel
theorem dd_121_523 : decode (am_b 121) 523 = .ok (.iaload, 1) := by decide +kernel
theorem dd_121_524 : decode (am_b 121) 524 = .ok (.invokevirtual 97, 3) := by decide +kernel
theorem dd_121_527 : decode (am_b 121) 527 = .ok (.istore 6, 2) := by decide +kernel
theorem dd_121_529 : decode (am_b 121) 529 = .ok (.aload_n 2, 1) := by decide +kernel
theorem dd_121_530 : decode (am_b 121) 530 = .ok (.invokevirtual 75, 3) := by decide +kernel
theorem dd_121_533 : decode (am_b 121) 533 = .ok (.iload 5, 2) := by decide +kernel
theorem dd_121_535 : decode (am_b 121) 535 = .ok (.if_icmp .eq 5, 3) := by decide +kernel
theorem dd_121_538 : decode (am_b 121) 538 = .ok (.iconst 0, 1) := by decide +kernel
theorem dd_121_539 : decode (am_b 121) 539 = .ok (.ireturn, 1) := by decide +kernel
theorem dd_121_540 : decode (am_b 121) 540 = .ok (.iload 5, 2) := by decide +kernel
theorem dd_121_542 : decode (am_b 121) 542 = .ok (.ifCond .ne 15, 3) := by decide +kernel
theorem dd_121_545 : decode (am_b 121) 545 = .ok (.aload_n 3, 1) := by decide +kernel
theorem dd_121_546 : decode (am_b 121) 546 = .ok (.iconst 0, 1) := by decide +kernel
theorem dd_121_547 : decode (am_b 121) 547 = .ok (.laload, 1) := by decide +kernel
theorem dd_121_548 : decode (am_b 121) 548 = .ok (.iload 6, 2) := by decide +kernel
theorem dd_121_550 : decode (am_b 121) 550 = .ok (.i2l, 1) := by decide +kernel
theorem dd_121_551 : decode (am_b 121) 551 = .ok (.lcmp, 1) := by decide +kernel
theorem dd_121_552 : decode (am_b 121) 552 = .ok (.ifCond .eq 5, 3) := by decide +kernel
theorem dd_121_555 : decode (am_b 121) 555 = .ok (.iconst 0, 1) := by decide +kernel
theorem dd_121_556 : decode (am_b 121) 556 = .ok (.ireturn, 1) := by decide +kernel
theorem dd_121_557 : decode (am_b 121) 557 = .ok (.goto 603, 3) := by decide +kernel
theorem dd_121_560 : decode (am_b 121) 560 = .ok (.aload_n 1, 1) := by decide +kernel
theorem dd_121_561 : decode (am_b 121) 561 = .ok (.aload_n 0, 1) := by decide +kernel
theorem dd_121_562 : decode (am_b 121) 562 = .ok (.iload 4, 2) := by decide +kernel
theorem dd_121_564 : decode (am_b 121) 564 = .ok (.iconst 1, 1) := by decide +kernel
theorem dd_121_565 : decode (am_b 121) 565 = .ok (.iadd, 1) := by decide +kernel
theorem dd_121_566 : decode (am_b 121) 566 = .ok (.iaload, 1) := by decide +kernel
theorem dd_121_567 : decode (am_b 121) 567 = .ok (.aload_n 3, 1) := by decide +kernel
theorem dd_121_568 : decode (am_b 121) 568 = .ok (.invokestatic 98, 3) := by decide +kernel
theorem dd_121_571 : decode (am_b 121) 571 = .ok (.istore 5, 2) := by decide +kernel
theorem dd_121_573 : decode (am_b 121) 573 = .ok (.aload_n 2, 1) := by decide +kernel
theorem dd_121_574 : decode (am_b 121) 574 = .ok (.aload_n 0, 1) := by decide +kernel
theorem dd_121_575 : decode (am_b 121) 575 = .ok (.iload 4, 2) := by decide +kernel
theorem dd_121_577 : decode (am_b 121) 577 = .ok (.iconst 1, 1) := by decide +kernel
theorem dd_121_578 : decode (am_b 121) 578 = .ok (.iadd, 1) := by decide +kernel
theorem dd_121_579 : decode (am_b 121) 579 = .ok (.iaload, 1) := by decide +kernel
theorem dd_121_580 : decode (am_b 121) 580 = .ok (.invokevirtual 100, 3) := by decide +kernel
theorem dd_121_583 : decode (am_b 121) 583 = .ok (.istore 6, 2) := by decide +kernel
theorem dd_121_585 : decode (am_b 121) 585 = .ok (.aload_n 2, 1) := by decide +kernel
theorem dd_121_586 : decode (am_b 121) 586 = .ok (.invokevirtual 75, 3) := by decide +kernel
theorem dd_121_589 : decode (am_b 121) 589 = .ok (.iload 5, 2) := by decide +kernel
theorem dd_121_591 : decode (am_b 121) 591 = .ok (.if_icmp .eq 5, 3) := by decide +kernel
theorem dd_121_594 : decode (am_b 121) 594 = .ok (.iconst 0, 1) := by decide +kernel
theorem dd_121_595 : decode (am_b 121) 595 = .ok (.ireturn, 1) := by decide +kernel
theorem dd_121_596 : decode (am_b 121) 596 = .ok (.iload 5, 2) := by decide +kernel
theorem dd_121_598 : decode (am_b 121) 598 = .ok (.ifCond .ne 15, 3) := by decide +kernel
theorem dd_121_601 : decode (am_b 121) 601 = .ok (.aload_n 3, 1) := by decide +kernel
theorem dd_121_602 : decode (am_b 121) 602 = .ok (.iconst 0, 1) := by decide +kernel
theorem dd_121_603 : decode (am_b 121) 603 = .ok (.laload, 1) := by decide +kernel
theorem dd_121_604 : decode (am_b 121) 604 = .ok (.iload 6, 2) := by decide +kernel
theorem dd_121_606 : decode (am_b 121) 606 = .ok (.i2l, 1) := by decide +kernel
theorem dd_121_607 : decode (am_b 121) 607 = .ok (.lcmp, 1) := by decide +kernel
theorem dd_121_608 : decode (am_b 121) 608 = .ok (.ifCond .eq 5, 3) := by decide +kernel
theorem dd_121_611 : decode (am_b 121) 611 = .ok (.iconst 0, 1) := by decide +kernel
theorem dd_121_612 : decode (am_b 121) 612 = .ok (.ireturn, 1) := by decide +kernel
theorem dd_121_613 : decode (am_b 121) 613 = .ok (.goto 547, 3) := by decide +kernel
theorem dd_121_616 : decode (am_b 121) 616 = .ok (.aload_n 1, 1) := by decide +kernel
theorem dd_121_617 : decode (am_b 121) 617 = .ok (.aload_n 0, 1) := by decide +kernel
theorem dd_121_618 : decode (am_b 121) 618 = .ok (.iload 4, 2) := by decide +kernel
theorem dd_121_620 : decode (am_b 121) 620 = .ok (.iconst 1, 1) := by decide +kernel
theorem dd_121_621 : decode (am_b 121) 621 = .ok (.iadd, 1) := by decide +kernel
theorem dd_121_622 : decode (am_b 121) 622 = .ok (.iaload, 1) := by decide +kernel
theorem dd_121_623 : decode (am_b 121) 623 = .ok (.aload_n 3, 1) := by decide +kernel
theorem dd_121_624 : decode (am_b 121) 624 = .ok (.invokestatic 101, 3) := by decide +kernel
theorem dd_121_627 : decode (am_b 121) 627 = .ok (.istore 5, 2) := by decide +kernel
theorem dd_121_629 : decode (am_b 121) 629 = .ok (.aload_n 2, 1) := by decide +kernel
theorem dd_121_630 : decode (am_b 121) 630 = .ok (.aload_n 0, 1) := by decide +kernel
theorem dd_121_631 : decode (am_b 121) 631 = .ok (.iload 4, 2) := by decide +kernel
theorem dd_121_633 : decode (am_b 121) 633 = .ok (.iconst 1, 1) := by decide +kernel
theorem dd_121_634 : decode (am_b 121) 634 = .ok (.iadd, 1) := by decide +kernel
theorem dd_121_635 : decode (am_b 121) 635 = .ok (.iaload, 1) := by decide +kernel
theorem dd_121_636 : decode (am_b 121) 636 = .ok (.invokevirtual 103, 3) := by decide +kernel
theorem dd_121_639 : decode (am_b 121) 639 = .ok (.istore 6, 2) := by decide +kernel
theorem dd_121_641 : decode (am_b 121) 641 = .ok (.aload_n 2, 1) := by decide +kernel
theorem dd_121_642 : decode (am_b 121) 642 = .ok (.invokevirtual 75, 3) := by decide +kernel
theorem dd_121_645 : decode (am_b 121) 645 = .ok (.iload 5, 2) := by decide +kernel
theorem dd_121_647 : decode (am_b 121) 647 = .ok (.if_icmp .eq 5, 3) := by decide +kernel
theorem dd_121_650 : decode (am_b 121) 650 = .ok (.iconst 0, 1) := by decide +kernel
theorem dd_121_651 : decode (am_b 121) 651 = .ok (.ireturn, 1) := by decide +kernel
theorem dd_121_652 : decode (am_b 121) 652 = .ok (.iload 5, 2) := by decide +kernel
theorem dd_121_654 : decode (am_b 121) 654 = .ok (.ifCond .ne 15, 3) := by decide +kernel
theorem dd_121_657 : decode (am_b 121) 657 = .ok (.aload_n 3, 1) := by decide +kernel
theorem dd_121_658 : decode (am_b 121) 658 = .ok (.iconst 0, 1) := by decide +kernel
theorem dd_121_659 : decode (am_b 121) 659 = .ok (.laload, 1) := by decide +kernel
theorem dd_121_660 : decode (am_b 121) 660 = .ok (.iload 6, 2) := by decide +kernel
theorem dd_121_662 : decode (am_b 121) 662 = .ok (.i2l, 1) := by decide +kernel
theorem dd_121_663 : decode (am_b 121) 663 = .ok (.lcmp, 1) := by decide +kernel
theorem dd_121_664 : decode (am_b 121) 664 = .ok (.ifCond .eq 5, 3) := by decide +kernel
theorem sg_121_482 {sh : am_Sh} {C : Nat → am_M → List am_V → am_O → Prop} {P : am_S ⊕ am_O → Prop} {M : am_M} {x4 : Int32} {x5 : Int32} {x6 : Int32}  (k : P (Sum.inr (M, Sum.inl (some (am_I 0))))) : am_ev sh C 121 (482, [some (am_R (some (31, 0, 0))), some (am_R (some (0, 0, 0))), some (am_R (some (20, 0, 0))), some (am_R (some (30, 0, 0))), some (am_I x4), some (am_I x5), some (am_I x6)], [], M, 1) P := by
  refine am_e_iconst (v := 0) dd_121_482 rfl rfl ?_
  exact am_e_iret dd_121_483 (by decide +kernel) (Or.inr ⟨rfl, Or.inl rfl⟩) k

theorem sg_121_484 {sh : am_Sh} {C : Nat → am_M → List am_V → am_O → Prop} {P : am_S ⊕ am_O → Prop} {M : am_M} {x4 : Int32} {x5 : Int32} {x6 : Int32}  (k1 : ¬ x5 = 0 → am_ev sh C 121 (501, [some (am_R (some (31, 0, 0))), some (am_R (some (0, 0, 0))), some (am_R (some (20, 0, 0))), some (am_R (some (30, 0, 0))), some (am_I x4), some (am_I x5), some (am_I x6)], [], M, 1) P) (k2 : x5 = 0 → am_ev sh C 121 (489, [some (am_R (some (31, 0, 0))), some (am_R (some (0, 0, 0))), some (am_R (some (20, 0, 0))), some (am_R (some (30, 0, 0))), some (am_I x4), some (am_I x5), some (am_I x6)], [], M, 1) P) : am_ev sh C 121 (484, [some (am_R (some (31, 0, 0))), some (am_R (some (0, 0, 0))), some (am_R (some (20, 0, 0))), some (am_R (some (30, 0, 0))), some (am_I x4), some (am_I x5), some (am_I x6)], [], M, 1) P := by
  refine am_e_iload dd_121_484 rfl rfl ?_
  exact am_a_if_ne (tgt := 501) (pc' := 489) dd_121_486 rfl rfl k1 k2

theorem sg_121_489 {sh : am_Sh} {C : Nat → am_M → List am_V → am_O → Prop} {P : am_S ⊕ am_O → Prop} {M : am_M} {x4 : Int32} {x5 : Int32} {x6 : Int32}  (k1 : (lg_cmp (M (30, 0, 0) 0).toInt64 (x6).toInt64) = 0 → am_ev sh C 121 (501, [some (am_R (some (31, 0, 0))), some (am_R (some (0, 0, 0))), some (am_R (some (20, 0, 0))), some (am_R (some (30, 0, 0))), some (am_I x4), some (am_I x5), some (am_I x6)], [], M, 1) P) (k2 : ¬ (lg_cmp (M (30, 0, 0) 0).toInt64 (x6).toInt64) = 0 → am_ev sh C 121 (499, [some (am_R (some (31, 0, 0))), some (am_R (some (0, 0, 0))), some (am_R (some (20, 0, 0))), some (am_R (some (30, 0, 0))), some (am_I x4), some (am_I x5), some (am_I x6)], [], M, 1) P) : am_ev sh C 121 (489, [some (am_R (some (31, 0, 0))), some (am_R (some (0, 0, 0))), some (am_R (some (20, 0, 0))), some (am_R (some (30, 0, 0))), some (am_I x4), some (am_I x5), some (am_I x6)], [], M, 1) P := by
  refine am_e_aload_n dd_121_489 rfl rfl ?_
  refine am_e_iconst (v := 0) dd_121_490 rfl rfl ?_
  refine am_a_lald dd_121_491 rfl rfl (by decide) (by decide) rfl ?_
  refine am_e_iload dd_121_492 rfl rfl ?_
  refine am_e_i2l dd_121_494 rfl ?_
  refine am_e_lcmp dd_121_495 rfl ?_
  exact am_a_if_eq (tgt := 501) (pc' := 499) dd_121_496 rfl rfl k1 k2

theorem sg_121_499 {sh : am_Sh} {C : Nat → am_M → List am_V → am_O → Prop} {P : am_S ⊕ am_O → Prop} {M : am_M} {x4 : Int32} {x5 : Int32} {x6 : Int32}  (k : P (Sum.inr (M, Sum.inl (some (am_I 0))))) : am_ev sh C 121 (499, [some (am_R (some (31, 0, 0))), some (am_R (some (0, 0, 0))), some (am_R (some (20, 0, 0))), some (am_R (some (30, 0, 0))), some (am_I x4), some (am_I x5), some (am_I x6)], [], M, 1) P := by
  refine am_e_iconst (v := 0) dd_121_499 rfl rfl ?_
  exact am_e_iret dd_121_500 (by decide +kernel) (Or.inr ⟨rfl, Or.inl rfl⟩) k

theorem sg_121_501 {sh : am_Sh} {C : Nat → am_M → List am_V → am_O → Prop} {P : am_S ⊕ am_O → Prop} {M : am_M} {x4 : Int32} {x5 : Int32} {x6 : Int32}  (k : am_ev sh C 121 (1160, [some (am_R (some (31, 0, 0))), some (am_R (some (0, 0, 0))), some (am_R (some (20, 0, 0))), some (am_R (some (30, 0, 0))), some (am_I x4), some (am_I x5), some (am_I x6)], [], M, 1) P) : am_ev sh C 121 (501, [some (am_R (some (31, 0, 0))), some (am_R (some (0, 0, 0))), some (am_R (some (20, 0, 0))), some (am_R (some (30, 0, 0))), some (am_I x4), some (am_I x5), some (am_I x6)], [], M, 1) P := by
  refine am_e_goto (pc' := 1160) dd_121_501 rfl ?_
  exact k

theorem sg_121_504 {sh : am_Sh} {C : Nat → am_M → List am_V → am_O → Prop} {P : am_S ⊕ am_O → Prop} {M : am_M} {x4 : Int32} {u5 : Option am_V} {u6 : Option am_V} {j1 : Nat} {M1 : am_M} {r1 : Int32} {M2 : am_M} {r2 : Int32} {M3 : am_M} {r3 : Int32} (hL : sh.2.2.2 < 2147483648) (hx_j1 : x4 + 1 = nI j1) (hl_j1 : j1 < sh.2.2.2) (hc1 : C 112 M [am_R (some (0, 0, 0)), am_I (M (31, 0, 0) j1), am_R (some (30, 0, 0))] (M1, Sum.inl (some (am_I r1)))) (hc2 : C 91 M1 [am_R (some (20, 0, 0)), am_I (M1 (31, 0, 0) j1)] (M2, Sum.inl (some (am_I r2)))) (hc3 : C 60 M2 [am_R (some (20, 0, 0))] (M3, Sum.inl (some (am_I r3)))) (k1 : r3 = r1 → am_ev sh C 121 (540, [some (am_R (some (31, 0, 0))), some (am_R (some (0, 0, 0))), some (am_R (some (20, 0, 0))), some (am_R (some (30, 0, 0))), some (am_I x4), some (am_I r1), some (am_I r2)], [], M3, 1) P) (k2 : ¬ r3 = r1 → am_ev sh C 121 (538, [some (am_R (some (31, 0, 0))), some (am_R (some (0, 0, 0))), some (am_R (some (20, 0, 0))), some (am_R (some (30, 0, 0))), some (am_I x4), some (am_I r1), some (am_I r2)], [], M3, 1) P) : am_ev sh C 121 (504, [some (am_R (some (31, 0, 0))), some (am_R (some (0, 0, 0))), some (am_R (some (20, 0, 0))), some (am_R (some (30, 0, 0))), some (am_I x4), u5, u6], [], M, 0) P := by
  refine am_e_aload_n dd_121_504 rfl rfl ?_
  refine am_e_aload_n dd_121_505 rfl rfl ?_
  refine am_e_iload dd_121_506 rfl rfl ?_
  refine am_e_iconst (v := 1) dd_121_508 rfl rfl ?_
  refine am_e_iadd dd_121_509 rfl ?_
  refine am_a_sald dd_121_510 rfl hx_j1 hl_j1 hL rfl ?_
  refine am_e_aload_n dd_121_511 rfl rfl ?_
  refine am_e_callS (c := 112) (k := 3) (as := [am_R (some (0, 0, 0)), am_I (M (31, 0, 0) j1), am_R (some (30, 0, 0))]) (S' := [am_I r1]) (v := some (am_I r1)) (M' := M1) (n' := 1) dd_121_512 (by decide +kernel) (by decide +kernel) ⟨Nat.le_of_ble_eq_true rfl, Nat.le_of_ble_eq_true rfl, by decide +kernel, (Or.inl rfl)⟩ rfl rfl (by decide +kernel) hc1 rfl ?_
  refine am_e_istore dd_121_515 (Nat.le_of_ble_eq_true rfl) rfl rfl ?_
  refine am_e_aload_n dd_121_517 rfl rfl ?_
  refine am_e_aload_n dd_121_518 rfl rfl ?_
  refine am_e_iload dd_121_519 rfl rfl ?_
  refine am_e_iconst (v := 1) dd_121_521 rfl rfl ?_
  refine am_e_iadd dd_121_522 rfl ?_
  refine am_a_sald dd_121_523 rfl hx_j1 hl_j1 hL rfl ?_
  refine am_e_callV (c := 91) (k := 2) (as := [am_R (some (20, 0, 0)), am_I (M1 (31, 0, 0) j1)]) (S' := [am_I r2]) (v := some (am_I r2)) (M' := M2) (n' := 1) dd_121_524 (by decide +kernel) ⟨Nat.le_of_ble_eq_true rfl, Nat.le_of_ble_eq_true rfl, by decide +kernel, (Or.inr (am_rcv_of rfl))⟩ rfl rfl (by decide +kernel) hc2 rfl ?_
  refine am_e_istore dd_121_527 (Nat.le_of_ble_eq_true rfl) rfl rfl ?_
  refine am_e_aload_n dd_121_529 rfl rfl ?_
  refine am_e_callV (c := 60) (k := 1) (as := [am_R (some (20, 0, 0))]) (S' := [am_I r3]) (v := some (am_I r3)) (M' := M3) (n' := 1) dd_121_530 (by decide +kernel) ⟨Nat.le_of_ble_eq_true rfl, Nat.le_of_ble_eq_true rfl, by decide +kernel, (Or.inr (am_rcv_of rfl))⟩ rfl rfl (by decide +kernel) hc3 rfl ?_
  refine am_e_iload dd_121_533 rfl rfl ?_
  exact am_a_icmp_eq (tgt := 540) (pc' := 538) dd_121_535 rfl rfl k1 k2

theorem sg_121_538 {sh : am_Sh} {C : Nat → am_M → List am_V → am_O → Prop} {P : am_S ⊕ am_O → Prop} {M : am_M} {x4 : Int32} {x5 : Int32} {x6 : Int32}  (k : P (Sum.inr (M, Sum.inl (some (am_I 0))))) : am_ev sh C 121 (538, [some (am_R (some (31, 0, 0))), some (am_R (some (0, 0, 0))), some (am_R (some (20, 0, 0))), some (am_R (some (30, 0, 0))), some (am_I x4), some (am_I x5), some (am_I x6)], [], M, 1) P := by
  refine am_e_iconst (v := 0) dd_121_538 rfl rfl ?_
  exact am_e_iret dd_121_539 (by decide +kernel) (Or.inr ⟨rfl, Or.inl rfl⟩) k

theorem sg_121_540 {sh : am_Sh} {C : Nat → am_M → List am_V → am_O → Prop} {P : am_S ⊕ am_O → Prop} {M : am_M} {x4 : Int32} {x5 : Int32} {x6 : Int32}  (k1 : ¬ x5 = 0 → am_ev sh C 121 (557, [some (am_R (some (31, 0, 0))), some (am_R (some (0, 0, 0))), some (am_R (some (20, 0, 0))), some (am_R (some (30, 0, 0))), some (am_I x4), some (am_I x5), some (am_I x6)], [], M, 1) P) (k2 : x5 = 0 → am_ev sh C 121 (545, [some (am_R (some (31, 0, 0))), some (am_R (some (0, 0, 0))), some (am_R (some (20, 0, 0))), some (am_R (some (30, 0, 0))), some (am_I x4), some (am_I x5), some (am_I x6)], [], M, 1) P) : am_ev sh C 121 (540, [some (am_R (some (31, 0, 0))), some (am_R (some (0, 0, 0))), some (am_R (some (20, 0, 0))), some (am_R (some (30, 0, 0))), some (am_I x4), some (am_I x5), some (am_I x6)], [], M, 1) P := by
  refine am_e_iload dd_121_540 rfl rfl ?_
  exact am_a_if_ne (tgt := 557) (pc' := 545) dd_121_542 rfl rfl k1 k2

theorem sg_121_545 {sh : am_Sh} {C : Nat → am_M → List am_V → am_O → Prop} {P : am_S ⊕ am_O → Prop} {M : am_M} {x4 : Int32} {x5 : Int32} {x6 : Int32}  (k1 : (lg_cmp (M (30, 0, 0) 0).toInt64 (x6).toInt64) = 0 → am_ev sh C 121 (557, [some (am_R (some (31, 0, 0))), some (am_R (some (0, 0, 0))), some (am_R (some (20, 0, 0))), some (am_R (some (30, 0, 0))), some (am_I x4), some (am_I x5), some (am_I x6)], [], M, 1) P) (k2 : ¬ (lg_cmp (M (30, 0, 0) 0).toInt64 (x6).toInt64) = 0 → am_ev sh C 121 (555, [some (am_R (some (31, 0, 0))), some (am_R (some (0, 0, 0))), some (am_R (some (20, 0, 0))), some (am_R (some (30, 0, 0))), some (am_I x4), some (am_I x5), some (am_I x6)], [], M, 1) P) : am_ev sh C 121 (545, [some (am_R (some (31, 0, 0))), some (am_R (some (0, 0, 0))), some (am_R (some (20, 0, 0))), some (am_R (some (30, 0, 0))), some (am_I x4), some (am_I x5), some (am_I x6)], [], M, 1) P := by
  refine am_e_aload_n dd_121_545 rfl rfl ?_
  refine am_e_iconst (v := 0) dd_121_546 rfl rfl ?_
  refine am_a_lald dd_121_547 rfl rfl (by decide) (by decide) rfl ?_
  refine am_e_iload dd_121_548 rfl rfl ?_
  refine am_e_i2l dd_121_550 rfl ?_
  refine am_e_lcmp dd_121_551 rfl ?_
  exact am_a_if_eq (tgt := 557) (pc' := 555) dd_121_552 rfl rfl k1 k2

theorem sg_121_555 {sh : am_Sh} {C : Nat → am_M → List am_V → am_O → Prop} {P : am_S ⊕ am_O → Prop} {M : am_M} {x4 : Int32} {x5 : Int32} {x6 : Int32}  (k : P (Sum.inr (M, Sum.inl (some (am_I 0))))) : am_ev sh C 121 (555, [some (am_R (some (31, 0, 0))), some (am_R (some (0, 0, 0))), some (am_R (some (20, 0, 0))), some (am_R (some (30, 0, 0))), some (am_I x4), some (am_I x5), some (am_I x6)], [], M, 1) P := by
  refine am_e_iconst (v := 0) dd_121_555 rfl rfl ?_
  exact am_e_iret dd_121_556 (by decide +kernel) (Or.inr ⟨rfl, Or.inl rfl⟩) k

theorem sg_121_557 {sh : am_Sh} {C : Nat → am_M → List am_V → am_O → Prop} {P : am_S ⊕ am_O → Prop} {M : am_M} {x4 : Int32} {x5 : Int32} {x6 : Int32}  (k : am_ev sh C 121 (1160, [some (am_R (some (31, 0, 0))), some (am_R (some (0, 0, 0))), some (am_R (some (20, 0, 0))), some (am_R (some (30, 0, 0))), some (am_I x4), some (am_I x5), some (am_I x6)], [], M, 1) P) : am_ev sh C 121 (557, [some (am_R (some (31, 0, 0))), some (am_R (some (0, 0, 0))), some (am_R (some (20, 0, 0))), some (am_R (some (30, 0, 0))), some (am_I x4), some (am_I x5), some (am_I x6)], [], M, 1) P := by
  refine am_e_goto (pc' := 1160) dd_121_557 rfl ?_
  exact k

theorem sg_121_560 {sh : am_Sh} {C : Nat → am_M → List am_V → am_O → Prop} {P : am_S ⊕ am_O → Prop} {M : am_M} {x4 : Int32} {u5 : Option am_V} {u6 : Option am_V} {j1 : Nat} {M1 : am_M} {r1 : Int32} {M2 : am_M} {r2 : Int32} {M3 : am_M} {r3 : Int32} (hL : sh.2.2.2 < 2147483648) (hx_j1 : x4 + 1 = nI j1) (hl_j1 : j1 < sh.2.2.2) (hc1 : C 113 M [am_R (some (0, 0, 0)), am_I (M (31, 0, 0) j1), am_R (some (30, 0, 0))] (M1, Sum.inl (some (am_I r1)))) (hc2 : C 93 M1 [am_R (some (20, 0, 0)), am_I (M1 (31, 0, 0) j1)] (M2, Sum.inl (some (am_I r2)))) (hc3 : C 60 M2 [am_R (some (20, 0, 0))] (M3, Sum.inl (some (am_I r3)))) (k1 : r3 = r1 → am_ev sh C 121 (596, [some (am_R (some (31, 0, 0))), some (am_R (some (0, 0, 0))), some (am_R (some (20, 0, 0))), some (am_R (some (30, 0, 0))), some (am_I x4), some (am_I r1), some (am_I r2)], [], M3, 1) P) (k2 : ¬ r3 = r1 → am_ev sh C 121 (594, [some (am_R (some (31, 0, 0))), some (am_R (some (0, 0, 0))), some (am_R (some (20, 0, 0))), some (am_R (some (30, 0, 0))), some (am_I x4), some (am_I r1), some (am_I r2)], [], M3, 1) P) : am_ev sh C 121 (560, [some (am_R (some (31, 0, 0))), some (am_R (some (0, 0, 0))), some (am_R (some (20, 0, 0))), some (am_R (some (30, 0, 0))), some (am_I x4), u5, u6], [], M, 0) P := by
  refine am_e_aload_n dd_121_560 rfl rfl ?_
  refine am_e_aload_n dd_121_561 rfl rfl ?_
  refine am_e_iload dd_121_562 rfl rfl ?_
  refine am_e_iconst (v := 1) dd_121_564 rfl rfl ?_
  refine am_e_iadd dd_121_565 rfl ?_
  refine am_a_sald dd_121_566 rfl hx_j1 hl_j1 hL rfl ?_
  refine am_e_aload_n dd_121_567 rfl rfl ?_
  refine am_e_callS (c := 113) (k := 3) (as := [am_R (some (0, 0, 0)), am_I (M (31, 0, 0) j1), am_R (some (30, 0, 0))]) (S' := [am_I r1]) (v := some (am_I r1)) (M' := M1) (n' := 1) dd_121_568 (by decide +kernel) (by decide +kernel) ⟨Nat.le_of_ble_eq_true rfl, Nat.le_of_ble_eq_true rfl, by decide +kernel, (Or.inl rfl)⟩ rfl rfl (by decide +kernel) hc1 rfl ?_
  refine am_e_istore dd_121_571 (Nat.le_of_ble_eq_true rfl) rfl rfl ?_
  refine am_e_aload_n dd_121_573 rfl rfl ?_
  refine am_e_aload_n dd_121_574 rfl rfl ?_
  refine am_e_iload dd_121_575 rfl rfl ?_
  refine am_e_iconst (v := 1) dd_121_577 rfl rfl ?_
  refine am_e_iadd dd_121_578 rfl ?_
  refine am_a_sald dd_121_579 rfl hx_j1 hl_j1 hL rfl ?_
  refine am_e_callV (c := 93) (k := 2) (as := [am_R (some (20, 0, 0)), am_I (M1 (31, 0, 0) j1)]) (S' := [am_I r2]) (v := some (am_I r2)) (M' := M2) (n' := 1) dd_121_580 (by decide +kernel) ⟨Nat.le_of_ble_eq_true rfl, Nat.le_of_ble_eq_true rfl, by decide +kernel, (Or.inr (am_rcv_of rfl))⟩ rfl rfl (by decide +kernel) hc2 rfl ?_
  refine am_e_istore dd_121_583 (Nat.le_of_ble_eq_true rfl) rfl rfl ?_
  refine am_e_aload_n dd_121_585 rfl rfl ?_
  refine am_e_callV (c := 60) (k := 1) (as := [am_R (some (20, 0, 0))]) (S' := [am_I r3]) (v := some (am_I r3)) (M' := M3) (n' := 1) dd_121_586 (by decide +kernel) ⟨Nat.le_of_ble_eq_true rfl, Nat.le_of_ble_eq_true rfl, by decide +kernel, (Or.inr (am_rcv_of rfl))⟩ rfl rfl (by decide +kernel) hc3 rfl ?_
  refine am_e_iload dd_121_589 rfl rfl ?_
  exact am_a_icmp_eq (tgt := 596) (pc' := 594) dd_121_591 rfl rfl k1 k2

theorem sg_121_594 {sh : am_Sh} {C : Nat → am_M → List am_V → am_O → Prop} {P : am_S ⊕ am_O → Prop} {M : am_M} {x4 : Int32} {x5 : Int32} {x6 : Int32}  (k : P (Sum.inr (M, Sum.inl (some (am_I 0))))) : am_ev sh C 121 (594, [some (am_R (some (31, 0, 0))), some (am_R (some (0, 0, 0))), some (am_R (some (20, 0, 0))), some (am_R (some (30, 0, 0))), some (am_I x4), some (am_I x5), some (am_I x6)], [], M, 1) P := by
  refine am_e_iconst (v := 0) dd_121_594 rfl rfl ?_
  exact am_e_iret dd_121_595 (by decide +kernel) (Or.inr ⟨rfl, Or.inl rfl⟩) k

theorem sg_121_596 {sh : am_Sh} {C : Nat → am_M → List am_V → am_O → Prop} {P : am_S ⊕ am_O → Prop} {M : am_M} {x4 : Int32} {x5 : Int32} {x6 : Int32}  (k1 : ¬ x5 = 0 → am_ev sh C 121 (613, [some (am_R (some (31, 0, 0))), some (am_R (some (0, 0, 0))), some (am_R (some (20, 0, 0))), some (am_R (some (30, 0, 0))), some (am_I x4), some (am_I x5), some (am_I x6)], [], M, 1) P) (k2 : x5 = 0 → am_ev sh C 121 (601, [some (am_R (some (31, 0, 0))), some (am_R (some (0, 0, 0))), some (am_R (some (20, 0, 0))), some (am_R (some (30, 0, 0))), some (am_I x4), some (am_I x5), some (am_I x6)], [], M, 1) P) : am_ev sh C 121 (596, [some (am_R (some (31, 0, 0))), some (am_R (some (0, 0, 0))), some (am_R (some (20, 0, 0))), some (am_R (some (30, 0, 0))), some (am_I x4), some (am_I x5), some (am_I x6)], [], M, 1) P := by
  refine am_e_iload dd_121_596 rfl rfl ?_
  exact am_a_if_ne (tgt := 613) (pc' := 601) dd_121_598 rfl rfl k1 k2

theorem sg_121_601 {sh : am_Sh} {C : Nat → am_M → List am_V → am_O → Prop} {P : am_S ⊕ am_O → Prop} {M : am_M} {x4 : Int32} {x5 : Int32} {x6 : Int32}  (k1 : (lg_cmp (M (30, 0, 0) 0).toInt64 (x6).toInt64) = 0 → am_ev sh C 121 (613, [some (am_R (some (31, 0, 0))), some (am_R (some (0, 0, 0))), some (am_R (some (20, 0, 0))), some (am_R (some (30, 0, 0))), some (am_I x4), some (am_I x5), some (am_I x6)], [], M, 1) P) (k2 : ¬ (lg_cmp (M (30, 0, 0) 0).toInt64 (x6).toInt64) = 0 → am_ev sh C 121 (611, [some (am_R (some (31, 0, 0))), some (am_R (some (0, 0, 0))), some (am_R (some (20, 0, 0))), some (am_R (some (30, 0, 0))), some (am_I x4), some (am_I x5), some (am_I x6)], [], M, 1) P) : am_ev sh C 121 (601, [some (am_R (some (31, 0, 0))), some (am_R (some (0, 0, 0))), some (am_R (some (20, 0, 0))), some (am_R (some (30, 0, 0))), some (am_I x4), some (am_I x5), some (am_I x6)], [], M, 1) P := by
  refine am_e_aload_n dd_121_601 rfl rfl ?_
  refine am_e_iconst (v := 0) dd_121_602 rfl rfl ?_
  refine am_a_lald dd_121_603 rfl rfl (by decide) (by decide) rfl ?_
  refine am_e_iload dd_121_604 rfl rfl ?_
  refine am_e_i2l dd_121_606 rfl ?_
  refine am_e_lcmp dd_121_607 rfl ?_
  exact am_a_if_eq (tgt := 613) (pc' := 611) dd_121_608 rfl rfl k1 k2

theorem sg_121_611 {sh : am_Sh} {C : Nat → am_M → List am_V → am_O → Prop} {P : am_S ⊕ am_O → Prop} {M : am_M} {x4 : Int32} {x5 : Int32} {x6 : Int32}  (k : P (Sum.inr (M, Sum.inl (some (am_I 0))))) : am_ev sh C 121 (611, [some (am_R (some (31, 0, 0))), some (am_R (some (0, 0, 0))), some (am_R (some (20, 0, 0))), some (am_R (some (30, 0, 0))), some (am_I x4), some (am_I x5), some (am_I x6)], [], M, 1) P := by
  refine am_e_iconst (v := 0) dd_121_611 rfl rfl ?_
  exact am_e_iret dd_121_612 (by decide +kernel) (Or.inr ⟨rfl, Or.inl rfl⟩) k

theorem sg_121_613 {sh : am_Sh} {C : Nat → am_M → List am_V → am_O → Prop} {P : am_S ⊕ am_O → Prop} {M : am_M} {x4 : Int32} {x5 : Int32} {x6 : Int32}  (k : am_ev sh C 121 (1160, [some (am_R (some (31, 0, 0))), some (am_R (some (0, 0, 0))), some (am_R (some (20, 0, 0))), some (am_R (some (30, 0, 0))), some (am_I x4), some (am_I x5), some (am_I x6)], [], M, 1) P) : am_ev sh C 121 (613, [some (am_R (some (31, 0, 0))), some (am_R (some (0, 0, 0))), some (am_R (some (20, 0, 0))), some (am_R (some (30, 0, 0))), some (am_I x4), some (am_I x5), some (am_I x6)], [], M, 1) P := by
  refine am_e_goto (pc' := 1160) dd_121_613 rfl ?_
  exact k

theorem sg_121_616 {sh : am_Sh} {C : Nat → am_M → List am_V → am_O → Prop} {P : am_S ⊕ am_O → Prop} {M : am_M} {x4 : Int32} {u5 : Option am_V} {u6 : Option am_V} {j1 : Nat} {M1 : am_M} {r1 : Int32} {M2 : am_M} {r2 : Int32} {M3 : am_M} {r3 : Int32} (hL : sh.2.2.2 < 2147483648) (hx_j1 : x4 + 1 = nI j1) (hl_j1 : j1 < sh.2.2.2) (hc1 : C 114 M [am_R (some (0, 0, 0)), am_I (M (31, 0, 0) j1), am_R (some (30, 0, 0))] (M1, Sum.inl (some (am_I r1)))) (hc2 : C 94 M1 [am_R (some (20, 0, 0)), am_I (M1 (31, 0, 0) j1)] (M2, Sum.inl (some (am_I r2)))) (hc3 : C 60 M2 [am_R (some (20, 0, 0))] (M3, Sum.inl (some (am_I r3)))) (k1 : r3 = r1 → am_ev sh C 121 (652, [some (am_R (some (31, 0, 0))), some (am_R (some (0, 0, 0))), some (am_R (some (20, 0, 0))), some (am_R (some (30, 0, 0))), some (am_I x4), some (am_I r1), some (am_I r2)], [], M3, 1) P) (k2 : ¬ r3 = r1 → am_ev sh C 121 (650, [some (am_R (some (31, 0, 0))), some (am_R (some (0, 0, 0))), some (am_R (some (20, 0, 0))), some (am_R (some (30, 0, 0))), some (am_I x4), some (am_I r1), some (am_I r2)], [], M3, 1) P) : am_ev sh C 121 (616, [some (am_R (some (31, 0, 0))), some (am_R (some (0, 0, 0))), some (am_R (some (20, 0, 0))), some (am_R (some (30, 0, 0))), some (am_I x4), u5, u6], [], M, 0) P := by
  refine am_e_aload_n dd_121_616 rfl rfl ?_
  refine am_e_aload_n dd_121_617 rfl rfl ?_
  refine am_e_iload dd_121_618 rfl rfl ?_
  refine am_e_iconst (v := 1) dd_121_620 rfl rfl ?_
  refine am_e_iadd dd_121_621 rfl ?_
  refine am_a_sald dd_121_622 rfl hx_j1 hl_j1 hL rfl ?_
  refine am_e_aload_n dd_121_623 rfl rfl ?_
  refine am_e_callS (c := 114) (k := 3) (as := [am_R (some (0, 0, 0)), am_I (M (31, 0, 0) j1), am_R (some (30, 0, 0))]) (S' := [am_I r1]) (v := some (am_I r1)) (M' := M1) (n' := 1) dd_121_624 (by decide +kernel) (by decide +kernel) ⟨Nat.le_of_ble_eq_true rfl, Nat.le_of_ble_eq_true rfl, by decide +kernel, (Or.inl rfl)⟩ rfl rfl (by decide +kernel) hc1 rfl ?_
  refine am_e_istore dd_121_627 (Nat.le_of_ble_eq_true rfl) rfl rfl ?_
  refine am_e_aload_n dd_121_629 rfl rfl ?_
  refine am_e_aload_n dd_121_630 rfl rfl ?_
  refine am_e_iload dd_121_631 rfl rfl ?_
  refine am_e_iconst (v := 1) dd_121_633 rfl rfl ?_
  refine am_e_iadd dd_121_634 rfl ?_
  refine am_a_sald dd_121_635 rfl hx_j1 hl_j1 hL rfl ?_
  refine am_e_callV (c := 94) (k := 2) (as := [am_R (some (20, 0, 0)), am_I (M1 (31, 0, 0) j1)]) (S' := [am_I r2]) (v := some (am_I r2)) (M' := M2) (n' := 1) dd_121_636 (by decide +kernel) ⟨Nat.le_of_ble_eq_true rfl, Nat.le_of_ble_eq_true rfl, by decide +kernel, (Or.inr (am_rcv_of rfl))⟩ rfl rfl (by decide +kernel) hc2 rfl ?_
  refine am_e_istore dd_121_639 (Nat.le_of_ble_eq_true rfl) rfl rfl ?_
  refine am_e_aload_n dd_121_641 rfl rfl ?_
  refine am_e_callV (c := 60) (k := 1) (as := [am_R (some (20, 0, 0))]) (S' := [am_I r3]) (v := some (am_I r3)) (M' := M3) (n' := 1) dd_121_642 (by decide +kernel) ⟨Nat.le_of_ble_eq_true rfl, Nat.le_of_ble_eq_true rfl, by decide +kernel, (Or.inr (am_rcv_of rfl))⟩ rfl rfl (by decide +kernel) hc3 rfl ?_
  refine am_e_iload dd_121_645 rfl rfl ?_
  exact am_a_icmp_eq (tgt := 652) (pc' := 650) dd_121_647 rfl rfl k1 k2

theorem sg_121_650 {sh : am_Sh} {C : Nat → am_M → List am_V → am_O → Prop} {P : am_S ⊕ am_O → Prop} {M : am_M} {x4 : Int32} {x5 : Int32} {x6 : Int32}  (k : P (Sum.inr (M, Sum.inl (some (am_I 0))))) : am_ev sh C 121 (650, [some (am_R (some (31, 0, 0))), some (am_R (some (0, 0, 0))), some (am_R (some (20, 0, 0))), some (am_R (some (30, 0, 0))), some (am_I x4), some (am_I x5), some (am_I x6)], [], M, 1) P := by
  refine am_e_iconst (v := 0) dd_121_650 rfl rfl ?_
  exact am_e_iret dd_121_651 (by decide +kernel) (Or.inr ⟨rfl, Or.inl rfl⟩) k

theorem sg_121_652 {sh : am_Sh} {C : Nat → am_M → List am_V → am_O → Prop} {P : am_S ⊕ am_O → Prop} {M : am_M} {x4 : Int32} {x5 : Int32} {x6 : Int32}  (k1 : ¬ x5 = 0 → am_ev sh C 121 (669, [some (am_R (some (31, 0, 0))), some (am_R (some (0, 0, 0))), some (am_R (some (20, 0, 0))), some (am_R (some (30, 0, 0))), some (am_I x4), some (am_I x5), some (am_I x6)], [], M, 1) P) (k2 : x5 = 0 → am_ev sh C 121 (657, [some (am_R (some (31, 0, 0))), some (am_R (some (0, 0, 0))), some (am_R (some (20, 0, 0))), some (am_R (some (30, 0, 0))), some (am_I x4), some (am_I x5), some (am_I x6)], [], M, 1) P) : am_ev sh C 121 (652, [some (am_R (some (31, 0, 0))), some (am_R (some (0, 0, 0))), some (am_R (some (20, 0, 0))), some (am_R (some (30, 0, 0))), some (am_I x4), some (am_I x5), some (am_I x6)], [], M, 1) P := by
  refine am_e_iload dd_121_652 rfl rfl ?_
  exact am_a_if_ne (tgt := 669) (pc' := 657) dd_121_654 rfl rfl k1 k2

theorem sg_121_657 {sh : am_Sh} {C : Nat → am_M → List am_V → am_O → Prop} {P : am_S ⊕ am_O → Prop} {M : am_M} {x4 : Int32} {x5 : Int32} {x6 : Int32}  (k1 : (lg_cmp (M (30, 0, 0) 0).toInt64 (x6).toInt64) = 0 → am_ev sh C 121 (669, [some (am_R (some (31, 0, 0))), some (am_R (some (0, 0, 0))), some (am_R (some (20, 0, 0))), some (am_R (some (30, 0, 0))), some (am_I x4), some (am_I x5), some (am_I x6)], [], M, 1) P) (k2 : ¬ (lg_cmp (M (30, 0, 0) 0).toInt64 (x6).toInt64) = 0 → am_ev sh C 121 (667, [some (am_R (some (31, 0, 0))), some (am_R (some (0, 0, 0))), some (am_R (some (20, 0, 0))), some (am_R (some (30, 0, 0))), some (am_I x4), some (am_I x5), some (am_I x6)], [], M, 1) P) : am_ev sh C 121 (657, [some (am_R (some (31, 0, 0))), some (am_R (some (0, 0, 0))), some (am_R (some (20, 0, 0))), some (am_R (some (30, 0, 0))), some (am_I x4), some (am_I x5), some (am_I x6)], [], M, 1) P := by
  refine am_e_aload_n dd_121_657 rfl rfl ?_
  refine am_e_iconst (v := 0) dd_121_658 rfl rfl ?_
  refine am_a_lald dd_121_659 rfl rfl (by decide) (by decide) rfl ?_
  refine am_e_iload dd_121_660 rfl rfl ?_
  refine am_e_i2l dd_121_662 rfl ?_
  refine am_e_lcmp dd_121_663 rfl ?_
  exact am_a_if_eq (tgt := 669) (pc' := 667) dd_121_664 rfl rfl k1 k2

