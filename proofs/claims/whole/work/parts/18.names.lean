theorem dX11_init_630 : decode cX11_init 630 = .ok (.sipush 4096, 3) := by decide +kernel
theorem dX11_init_633 : decode cX11_init 633 = .ok (.newarray .boolean, 2) := by decide +kernel
theorem dX11_init_635 : decode cX11_init 635 = .ok (.putfield 26, 3) := by decide +kernel
theorem dX11_init_638 : decode cX11_init 638 = .ok (.aload_n 0, 1) := by decide +kernel
theorem dX11_init_639 : decode cX11_init 639 = .ok (.bipush 96, 2) := by decide +kernel
theorem dX11_init_641 : decode cX11_init 641 = .ok (.newarray .int, 2) := by decide +kernel
theorem dX11_init_643 : decode cX11_init 643 = .ok (.putfield 30, 3) := by decide +kernel
theorem dX11_init_646 : decode cX11_init 646 = .ok (.aload_n 0, 1) := by decide +kernel
theorem dX11_init_647 : decode cX11_init 647 = .ok (.bipush 96, 2) := by decide +kernel
theorem dX11_init_649 : decode cX11_init 649 = .ok (.newarray .long, 2) := by decide +kernel
theorem dX11_init_651 : decode cX11_init 651 = .ok (.putfield 33, 3) := by decide +kernel
theorem dX11_init_654 : decode cX11_init 654 = .ok (.aload_n 0, 1) := by decide +kernel
theorem dX11_init_655 : decode cX11_init 655 = .ok (.bipush 96, 2) := by decide +kernel
theorem dX11_init_657 : decode cX11_init 657 = .ok (.newarray .int, 2) := by decide +kernel
theorem dX11_init_659 : decode cX11_init 659 = .ok (.putfield 37, 3) := by decide +kernel
theorem dX11_init_662 : decode cX11_init 662 = .ok (.aload_n 0, 1) := by decide +kernel
theorem dX11_init_663 : decode cX11_init 663 = .ok (.bipush 96, 2) := by decide +kernel
theorem dX11_init_665 : decode cX11_init 665 = .ok (.newarray .int, 2) := by decide +kernel
theorem dX11_init_667 : decode cX11_init 667 = .ok (.putfield 40, 3) := by decide +kernel
theorem dX11_init_670 : decode cX11_init 670 = .ok (.aload_n 0, 1) := by decide +kernel
theorem dX11_init_671 : decode cX11_init 671 = .ok (.bipush 96, 2) := by decide +kernel
theorem dX11_init_673 : decode cX11_init 673 = .ok (.newarray .int, 2) := by decide +kernel
theorem dX11_init_675 : decode cX11_init 675 = .ok (.putfield 43, 3) := by decide +kernel
theorem dX11_init_678 : decode cX11_init 678 = .ok (.aload_n 0, 1) := by decide +kernel
theorem dX11_init_679 : decode cX11_init 679 = .ok (.sipush 4096, 3) := by decide +kernel
theorem dX11_init_682 : decode cX11_init 682 = .ok (.newarray .int, 2) := by decide +kernel
theorem dX11_init_684 : decode cX11_init 684 = .ok (.putfield 46, 3) := by decide +kernel
theorem dX11_init_687 : decode cX11_init 687 = .ok (.aload_n 0, 1) := by decide +kernel
theorem dX11_init_688 : decode cX11_init 688 = .ok (.sipush 4096, 3) := by decide +kernel
theorem dX11_init_691 : decode cX11_init 691 = .ok (.newarray .boolean, 2) := by decide +kernel
theorem dX11_init_693 : decode cX11_init 693 = .ok (.putfield 49, 3) := by decide +kernel
theorem dX11_init_696 : decode cX11_init 696 = .ok (.aload_n 0, 1) := by decide +kernel
theorem dX11_init_697 : decode cX11_init 697 = .ok (.sipush 4096, 3) := by decide +kernel
theorem dX11_init_700 : decode cX11_init 700 = .ok (.newarray .int, 2) := by decide +kernel
theorem dX11_init_702 : decode cX11_init 702 = .ok (.putfield 52, 3) := by decide +kernel
theorem dX11_init_705 : decode cX11_init 705 = .ok (.aload_n 0, 1) := by decide +kernel
theorem dX11_init_706 : decode cX11_init 706 = .ok (.sipush 4096, 3) := by decide +kernel
theorem dX11_init_709 : decode cX11_init 709 = .ok (.newarray .int, 2) := by decide +kernel
theorem dX11_init_711 : decode cX11_init 711 = .ok (.putfield 55, 3) := by decide +kernel
theorem dX11_init_714 : decode cX11_init 714 = .ok (.aload_n 0, 1) := by decide +kernel
theorem dX11_init_715 : decode cX11_init 715 = .ok (.sipush 4096, 3) := by decide +kernel
theorem dX11_init_718 : decode cX11_init 718 = .ok (.newarray .boolean, 2) := by decide +kernel
theorem dX11_init_720 : decode cX11_init 720 = .ok (.putfield 58, 3) := by decide +kernel
theorem dX11_init_723 : decode cX11_init 723 = .ok (.aload_n 0, 1) := by decide +kernel
theorem dX11_init_724 : decode cX11_init 724 = .ok (.bipush 19, 2) := by decide +kernel
theorem dX11_init_726 : decode cX11_init 726 = .ok (.newarray .int, 2) := by decide +kernel
theorem dX11_init_728 : decode cX11_init 728 = .ok (.putfield 61, 3) := by decide +kernel
theorem dX11_init_731 : decode cX11_init 731 = .ok (.aload_n 0, 1) := by decide +kernel
theorem dX11_init_732 : decode cX11_init 732 = .ok (.bipush 19, 2) := by decide +kernel
theorem dX11_init_734 : decode cX11_init 734 = .ok (.newarray .int, 2) := by decide +kernel
theorem dX11_init_736 : decode cX11_init 736 = .ok (.putfield 64, 3) := by decide +kernel
theorem dX11_init_739 : decode cX11_init 739 = .ok (.aload_n 0, 1) := by decide +kernel
theorem dX11_init_740 : decode cX11_init 740 = .ok (.ldc 67, 2) := by decide +kernel
theorem dX11_init_742 : decode cX11_init 742 = .ok (.newarray .int, 2) := by decide +kernel
theorem dX11_init_744 : decode cX11_init 744 = .ok (.putfield 68, 3) := by decide +kernel
theorem dX11_init_747 : decode cX11_init 747 = .ok (.return_, 1) := by decide +kernel
theorem dX11_thrown_0 : decode cX11_thrown 0 = .ok (.aload_n 0, 1) := by decide +kernel
theorem dX11_thrown_1 : decode cX11_thrown 1 = .ok (.getfield 71, 3) := by decide +kernel
theorem dX11_thrown_4 : decode cX11_thrown 4 = .ok (.ireturn, 1) := by decide +kernel
theorem dX11_throwing_0 : decode cX11_throwing 0 = .ok (.aload_n 0, 1) := by decide +kernel
theorem dX11_throwing_1 : decode cX11_throwing 1 = .ok (.iload_n 1, 1) := by decide +kernel
theorem dX11_throwing_2 : decode cX11_throwing 2 = .ok (.ifCond .eq 7, 3) := by decide +kernel
theorem dX11_throwing_5 : decode cX11_throwing 5 = .ok (.iconst 1, 1) := by decide +kernel
theorem dX11_throwing_6 : decode cX11_throwing 6 = .ok (.goto 20, 3) := by decide +kernel
theorem dX11_throwing_9 : decode cX11_throwing 9 = .ok (.iload_n 2, 1) := by decide +kernel
theorem dX11_throwing_10 : decode cX11_throwing 10 = .ok (.ifCond .eq 7, 3) := by decide +kernel
theorem dX11_throwing_13 : decode cX11_throwing 13 = .ok (.iconst 2, 1) := by decide +kernel
theorem dX11_throwing_14 : decode cX11_throwing 14 = .ok (.goto 12, 3) := by decide +kernel
theorem dX11_throwing_17 : decode cX11_throwing 17 = .ok (.iload_n 3, 1) := by decide +kernel
theorem dX11_throwing_18 : decode cX11_throwing 18 = .ok (.ifCond .eq 7, 3) := by decide +kernel
theorem dX11_throwing_21 : decode cX11_throwing 21 = .ok (.iconst 3, 1) := by decide +kernel
theorem dX11_throwing_22 : decode cX11_throwing 22 = .ok (.goto 4, 3) := by decide +kernel
theorem dX11_throwing_25 : decode cX11_throwing 25 = .ok (.iconst 0, 1) := by decide +kernel
theorem dX11_throwing_26 : decode cX11_throwing 26 = .ok (.putfield 71, 3) := by decide +kernel
theorem dX11_throwing_29 : decode cX11_throwing 29 = .ok (.aload_n 0, 1) := by decide +kernel
theorem dX11_throwing_30 : decode cX11_throwing 30 = .ok (.getfield 71, 3) := by decide +kernel
theorem dX11_throwing_33 : decode cX11_throwing 33 = .ok (.ifCond .le 7, 3) := by decide +kernel
theorem dX11_throwing_36 : decode cX11_throwing 36 = .ok (.iconst 1, 1) := by decide +kernel
theorem dX11_throwing_37 : decode cX11_throwing 37 = .ok (.goto 4, 3) := by decide +kernel
theorem dX11_throwing_40 : decode cX11_throwing 40 = .ok (.iconst 0, 1) := by decide +kernel
theorem dX11_throwing_41 : decode cX11_throwing 41 = .ok (.ireturn, 1) := by decide +kernel
theorem dX11_out_0 : decode cX11_out 0 = .ok (.iload_n 0, 1) := by decide +kernel
theorem dX11_out_1 : decode cX11_out 1 = .ok (.iload_n 1, 1) := by decide +kernel
theorem dX11_out_2 : decode cX11_out 2 = .ok (.if_icmp .lt 8, 3) := by decide +kernel
theorem dX11_out_5 : decode cX11_out 5 = .ok (.iload_n 0, 1) := by decide +kernel
theorem dX11_out_6 : decode cX11_out 6 = .ok (.iload_n 2, 1) := by decide +kernel
theorem dX11_out_7 : decode cX11_out 7 = .ok (.if_icmp .le 7, 3) := by decide +kernel
theorem dX11_out_10 : decode cX11_out 10 = .ok (.iconst 1, 1) := by decide +kernel
theorem dX11_out_11 : decode cX11_out 11 = .ok (.goto 4, 3) := by decide +kernel
theorem dX11_out_14 : decode cX11_out 14 = .ok (.iconst 0, 1) := by decide +kernel
theorem dX11_out_15 : decode cX11_out 15 = .ok (.ireturn, 1) := by decide +kernel
theorem dX11_resetContexts_0 : decode cX11_resetContexts 0 = .ok (.iconst 0, 1) := by decide +kernel
theorem dX11_resetContexts_1 : decode cX11_resetContexts 1 = .ok (.istore_n 1, 1) := by decide +kernel
theorem dX11_resetContexts_2 : decode cX11_resetContexts 2 = .ok (.iload_n 1, 1) := by decide +kernel
theorem dX11_resetContexts_3 : decode cX11_resetContexts 3 = .ok (.bipush 19, 2) := by decide +kernel
theorem dX11_resetContexts_5 : decode cX11_resetContexts 5 = .ok (.if_icmp .ge 52, 3) := by decide +kernel
theorem dX11_resetContexts_8 : decode cX11_resetContexts 8 = .ok (.aload_n 0, 1) := by decide +kernel
theorem dX11_resetContexts_9 : decode cX11_resetContexts 9 = .ok (.getfield 61, 3) := by decide +kernel
theorem dX11_resetContexts_12 : decode cX11_resetContexts 12 = .ok (.iload_n 1, 1) := by decide +kernel
theorem dX11_resetContexts_13 : decode cX11_resetContexts 13 = .ok (.iload_n 1, 1) := by decide +kernel
theorem dX11_resetContexts_14 : decode cX11_resetContexts 14 = .ok (.ifCond .ne 7, 3) := by decide +kernel
theorem dX11_resetContexts_17 : decode cX11_resetContexts 17 = .ok (.iconst 4, 1) := by decide +kernel
theorem dX11_resetContexts_18 : decode cX11_resetContexts 18 = .ok (.goto 25, 3) := by decide +kernel
theorem dX11_resetContexts_21 : decode cX11_resetContexts 21 = .ok (.iload_n 1, 1) := by decide +kernel
theorem dX11_resetContexts_22 : decode cX11_resetContexts 22 = .ok (.bipush 17, 2) := by decide +kernel
theorem dX11_resetContexts_24 : decode cX11_resetContexts 24 = .ok (.if_icmp .ne 7, 3) := by decide +kernel
theorem dX11_resetContexts_27 : decode cX11_resetContexts 27 = .ok (.iconst 3, 1) := by decide +kernel
theorem dX11_resetContexts_28 : decode cX11_resetContexts 28 = .ok (.goto 15, 3) := by decide +kernel
theorem dX11_resetContexts_31 : decode cX11_resetContexts 31 = .ok (.iload_n 1, 1) := by decide +kernel
theorem dX11_resetContexts_32 : decode cX11_resetContexts 32 = .ok (.bipush 18, 2) := by decide +kernel
theorem dX11_resetContexts_34 : decode cX11_resetContexts 34 = .ok (.if_icmp .ne 8, 3) := by decide +kernel
theorem dX11_resetContexts_37 : decode cX11_resetContexts 37 = .ok (.bipush 46, 2) := by decide +kernel
theorem dX11_resetContexts_39 : decode cX11_resetContexts 39 = .ok (.goto 4, 3) := by decide +kernel
theorem dX11_resetContexts_42 : decode cX11_resetContexts 42 = .ok (.iconst 0, 1) := by decide +kernel
theorem dX11_resetContexts_43 : decode cX11_resetContexts 43 = .ok (.iastore, 1) := by decide +kernel
theorem dX11_resetContexts_44 : decode cX11_resetContexts 44 = .ok (.aload_n 0, 1) := by decide +kernel
theorem dX11_resetContexts_45 : decode cX11_resetContexts 45 = .ok (.getfield 64, 3) := by decide +kernel
theorem dX11_resetContexts_48 : decode cX11_resetContexts 48 = .ok (.iload_n 1, 1) := by decide +kernel
theorem dX11_resetContexts_49 : decode cX11_resetContexts 49 = .ok (.iconst 0, 1) := by decide +kernel
theorem dX11_resetContexts_50 : decode cX11_resetContexts 50 = .ok (.iastore, 1) := by decide +kernel
theorem dX11_resetContexts_51 : decode cX11_resetContexts 51 = .ok (.iinc 1 1, 3) := by decide +kernel
theorem dX11_resetContexts_54 : decode cX11_resetContexts 54 = .ok (.goto (-52), 3) := by decide +kernel
theorem dX11_resetContexts_57 : decode cX11_resetContexts 57 = .ok (.return_, 1) := by decide +kernel
theorem dX11_changeContext_0 : decode cX11_changeContext 0 = .ok (.aload_n 0, 1) := by decide +kernel
theorem dX11_changeContext_1 : decode cX11_changeContext 1 = .ok (.getfield 61, 3) := by decide +kernel
theorem dX11_changeContext_4 : decode cX11_changeContext 4 = .ok (.iload_n 1, 1) := by decide +kernel
theorem dX11_changeContext_5 : decode cX11_changeContext 5 = .ok (.iaload, 1) := by decide +kernel
theorem dX11_changeContext_6 : decode cX11_changeContext 6 = .ok (.istore_n 3, 1) := by decide +kernel
theorem dX11_changeContext_7 : decode cX11_changeContext 7 = .ok (.iload_n 2, 1) := by decide +kernel
theorem dX11_changeContext_8 : decode cX11_changeContext 8 = .ok (.ifCond .ne 33, 3) := by decide +kernel
theorem dX11_changeContext_11 : decode cX11_changeContext 11 = .ok (.iload_n 3, 1) := by decide +kernel
theorem dX11_changeContext_12 : decode cX11_changeContext 12 = .ok (.ifCond .eq 15, 3) := by decide +kernel
theorem dX11_changeContext_15 : decode cX11_changeContext 15 = .ok (.iload_n 3, 1) := by decide +kernel
theorem dX11_changeContext_16 : decode cX11_changeContext 16 = .ok (.bipush 6, 2) := by decide +kernel
theorem dX11_changeContext_18 : decode cX11_changeContext 18 = .ok (.if_icmp .eq 9, 3) := by decide +kernel
theorem dX11_changeContext_21 : decode cX11_changeContext 21 = .ok (.iload_n 3, 1) := by decide +kernel
theorem dX11_changeContext_22 : decode cX11_changeContext 22 = .ok (.bipush 14, 2) := by decide +kernel
theorem dX11_changeContext_24 : decode cX11_changeContext 24 = .ok (.if_icmp .ne 17, 3) := by decide +kernel
theorem dX11_changeContext_27 : decode cX11_changeContext 27 = .ok (.aload_n 0, 1) := by decide +kernel
theorem dX11_changeContext_28 : decode cX11_changeContext 28 = .ok (.getfield 64, 3) := by decide +kernel
theorem dX11_changeContext_31 : decode cX11_changeContext 31 = .ok (.iload_n 1, 1) := by decide +kernel
theorem dX11_changeContext_32 : decode cX11_changeContext 32 = .ok (.iconst 1, 1) := by decide +kernel
theorem dX11_changeContext_33 : decode cX11_changeContext 33 = .ok (.aload_n 0, 1) := by decide +kernel
theorem dX11_changeContext_34 : decode cX11_changeContext 34 = .ok (.getfield 64, 3) := by decide +kernel
theorem dX11_changeContext_37 : decode cX11_changeContext 37 = .ok (.iload_n 1, 1) := by decide +kernel
theorem dX11_changeContext_38 : decode cX11_changeContext 38 = .ok (.iaload, 1) := by decide +kernel
theorem dX11_changeContext_39 : decode cX11_changeContext 39 = .ok (.isub, 1) := by decide +kernel
theorem dX11_changeContext_40 : decode cX11_changeContext 40 = .ok (.iastore, 1) := by decide +kernel
theorem dX11_changeContext_41 : decode cX11_changeContext 41 = .ok (.iload_n 2, 1) := by decide +kernel
theorem dX11_changeContext_42 : decode cX11_changeContext 42 = .ok (.ifCond .ne 18, 3) := by decide +kernel
theorem dX11_changeContext_45 : decode cX11_changeContext 45 = .ok (.aload_n 0, 1) := by decide +kernel
theorem dX11_changeContext_46 : decode cX11_changeContext 46 = .ok (.getfield 61, 3) := by decide +kernel
theorem dX11_changeContext_49 : decode cX11_changeContext 49 = .ok (.iload_n 1, 1) := by decide +kernel
theorem dX11_changeContext_50 : decode cX11_changeContext 50 = .ok (.aload_n 0, 1) := by decide +kernel
theorem dX11_changeContext_51 : decode cX11_changeContext 51 = .ok (.getfield 13, 3) := by decide +kernel
theorem dX11_changeContext_54 : decode cX11_changeContext 54 = .ok (.iload_n 3, 1) := by decide +kernel
theorem dX11_changeContext_55 : decode cX11_changeContext 55 = .ok (.iaload, 1) := by decide +kernel
theorem dX11_changeContext_56 : decode cX11_changeContext 56 = .ok (.iastore, 1) := by decide +kernel
theorem dX11_changeContext_57 : decode cX11_changeContext 57 = .ok (.goto 39, 3) := by decide +kernel
theorem dX11_changeContext_60 : decode cX11_changeContext 60 = .ok (.iload_n 3, 1) := by decide +kernel
theorem dX11_changeContext_61 : decode cX11_changeContext 61 = .ok (.bipush 45, 2) := by decide +kernel
theorem dX11_changeContext_63 : decode cX11_changeContext 63 = .ok (.if_icmp .ge 33, 3) := by decide +kernel
theorem dX11_changeContext_66 : decode cX11_changeContext 66 = .ok (.aload_n 0, 1) := by decide +kernel
theorem dX11_changeContext_67 : decode cX11_changeContext 67 = .ok (.getfield 61, 3) := by decide +kernel
theorem dX11_changeContext_70 : decode cX11_changeContext 70 = .ok (.iload_n 1, 1) := by decide +kernel
theorem dX11_changeContext_71 : decode cX11_changeContext 71 = .ok (.iload_n 3, 1) := by decide +kernel
theorem dX11_changeContext_72 : decode cX11_changeContext 72 = .ok (.iconst 5, 1) := by decide +kernel
theorem dX11_changeContext_73 : decode cX11_changeContext 73 = .ok (.if_icmp .ne 8, 3) := by decide +kernel
theorem dX11_changeContext_76 : decode cX11_changeContext 76 = .ok (.bipush 38, 2) := by decide +kernel
theorem dX11_changeContext_78 : decode cX11_changeContext 78 = .ok (.goto 17, 3) := by decide +kernel
theorem dX11_changeContext_81 : decode cX11_changeContext 81 = .ok (.iload_n 3, 1) := by decide +kernel
theorem dX11_changeContext_82 : decode cX11_changeContext 82 = .ok (.bipush 13, 2) := by decide +kernel
theorem dX11_changeContext_84 : decode cX11_changeContext 84 = .ok (.if_icmp .ne 8, 3) := by decide +kernel
theorem dX11_changeContext_87 : decode cX11_changeContext 87 = .ok (.bipush 29, 2) := by decide +kernel
theorem dX11_changeContext_89 : decode cX11_changeContext 89 = .ok (.goto 6, 3) := by decide +kernel
theorem dX11_changeContext_92 : decode cX11_changeContext 92 = .ok (.iload_n 3, 1) := by decide +kernel
theorem dX11_changeContext_93 : decode cX11_changeContext 93 = .ok (.iconst 1, 1) := by decide +kernel
theorem dX11_changeContext_94 : decode cX11_changeContext 94 = .ok (.iadd, 1) := by decide +kernel
theorem dX11_changeContext_95 : decode cX11_changeContext 95 = .ok (.iastore, 1) := by decide +kernel
theorem dX11_changeContext_96 : decode cX11_changeContext 96 = .ok (.return_, 1) := by decide +kernel
theorem dX11_lastIsFull_0 : decode cX11_lastIsFull 0 = .ok (.aload_n 0, 1) := by decide +kernel
theorem dX11_lastIsFull_1 : decode cX11_lastIsFull 1 = .ok (.getfield 74, 3) := by decide +kernel
theorem dX11_lastIsFull_4 : decode cX11_lastIsFull 4 = .ok (.aload_n 0, 1) := by decide +kernel
theorem dX11_lastIsFull_5 : decode cX11_lastIsFull 5 = .ok (.getfield 77, 3) := by decide +kernel
theorem dX11_lastIsFull_8 : decode cX11_lastIsFull 8 = .ok (.if_icmp .le 24, 3) := by decide +kernel
theorem dX11_lastIsFull_11 : decode cX11_lastIsFull 11 = .ok (.aload_n 0, 1) := by decide +kernel
theorem dX11_lastIsFull_12 : decode cX11_lastIsFull 12 = .ok (.getfield 68, 3) := by decide +kernel
theorem dX11_lastIsFull_15 : decode cX11_lastIsFull 15 = .ok (.aload_n 0, 1) := by decide +kernel
theorem dX11_lastIsFull_16 : decode cX11_lastIsFull 16 = .ok (.getfield 74, 3) := by decide +kernel
theorem dX11_lastIsFull_19 : decode cX11_lastIsFull 19 = .ok (.iconst 1, 1) := by decide +kernel
theorem dX11_lastIsFull_20 : decode cX11_lastIsFull 20 = .ok (.isub, 1) := by decide +kernel
theorem dX11_lastIsFull_21 : decode cX11_lastIsFull 21 = .ok (.iaload, 1) := by decide +kernel
theorem dX11_lastIsFull_22 : decode cX11_lastIsFull 22 = .ok (.sipush 255, 3) := by decide +kernel
theorem dX11_lastIsFull_25 : decode cX11_lastIsFull 25 = .ok (.if_icmp .ne 7, 3) := by decide +kernel
theorem dX11_lastIsFull_28 : decode cX11_lastIsFull 28 = .ok (.iconst 1, 1) := by decide +kernel
theorem dX11_lastIsFull_29 : decode cX11_lastIsFull 29 = .ok (.goto 4, 3) := by decide +kernel
theorem dX11_lastIsFull_32 : decode cX11_lastIsFull 32 = .ok (.iconst 0, 1) := by decide +kernel
theorem dX11_lastIsFull_33 : decode cX11_lastIsFull 33 = .ok (.ireturn, 1) := by decide +kernel
theorem dX11_carry_0 : decode cX11_carry 0 = .ok (.aload_n 0, 1) := by decide +kernel
theorem dX11_carry_1 : decode cX11_carry 1 = .ok (.getfield 80, 3) := by decide +kernel
theorem dX11_carry_4 : decode cX11_carry 4 = .ok (.ifCond .eq 15, 3) := by decide +kernel
theorem dX11_carry_7 : decode cX11_carry 7 = .ok (.iconst 1, 1) := by decide +kernel
theorem dX11_carry_8 : decode cX11_carry 8 = .ok (.bipush 27, 2) := by decide +kernel
theorem dX11_carry_10 : decode cX11_carry 10 = .ok (.aload_n 0, 1) := by decide +kernel
theorem dX11_carry_11 : decode cX11_carry 11 = .ok (.getfield 84, 3) := by decide +kernel
theorem dX11_carry_14 : decode cX11_carry 14 = .ok (.isub, 1) := by decide +kernel
theorem dX11_carry_15 : decode cX11_carry 15 = .ok (.ishl, 1) := by decide +kernel
theorem dX11_carry_16 : decode cX11_carry 16 = .ok (.goto 4, 3) := by decide +kernel
theorem dX11_carry_19 : decode cX11_carry 19 = .ok (.iconst 0, 1) := by decide +kernel
theorem dX11_carry_20 : decode cX11_carry 20 = .ok (.ireturn, 1) := by decide +kernel
set_option maxRecDepth 20000 in
theorem ggX11_keep_X11_carry : GoodIn wsX11_keep wsX11_carry := goodIn_r _ [11, 5, 4, 12, 13, 14, 15, 16, 17, 18, 19, 20, 21, 22, 23, 24, 25, 26, 27, 28, 29, 30, 31, 32, 33, 34, 35, 36, 37, 38, 39, 40, 41, 42, 43, 44, 45, 46, 47, 48, 49, 50, 51, 52, 53] (by decide +kernel) (by decide +kernel)
set_option maxRecDepth 20000 in
theorem gX11_keep_X11_carry : GoodIn wsX11_keep (wsV RX11 87 RX11 yX11_carry wsX11_carry) := goodIn_app (goodIn_of _ (by decide +kernel)) ggX11_keep_X11_carry
theorem dX11_keep_0 : decode cX11_keep 0 = .ok (.aload_n 0, 1) := by decide +kernel
theorem dX11_keep_1 : decode cX11_keep 1 = .ok (.aload_n 0, 1) := by decide +kernel
theorem dX11_keep_2 : decode cX11_keep 2 = .ok (.getfield 74, 3) := by decide +kernel
theorem dX11_keep_5 : decode cX11_keep 5 = .ok (.aload_n 0, 1) := by decide +kernel
theorem dX11_keep_6 : decode cX11_keep 6 = .ok (.getfield 77, 3) := by decide +kernel
theorem dX11_keep_9 : decode cX11_keep 9 = .ok (.if_icmp .le 37, 3) := by decide +kernel
theorem dX11_keep_12 : decode cX11_keep 12 = .ok (.aload_n 0, 1) := by decide +kernel
theorem dX11_keep_13 : decode cX11_keep 13 = .ok (.getfield 68, 3) := by decide +kernel
theorem dX11_keep_16 : decode cX11_keep 16 = .ok (.aload_n 0, 1) := by decide +kernel
theorem dX11_keep_17 : decode cX11_keep 17 = .ok (.getfield 74, 3) := by decide +kernel
theorem dX11_keep_20 : decode cX11_keep 20 = .ok (.iconst 1, 1) := by decide +kernel
theorem dX11_keep_21 : decode cX11_keep 21 = .ok (.isub, 1) := by decide +kernel
theorem dX11_keep_22 : decode cX11_keep 22 = .ok (.iaload, 1) := by decide +kernel
theorem dX11_keep_23 : decode cX11_keep 23 = .ok (.sipush 255, 3) := by decide +kernel
theorem dX11_keep_26 : decode cX11_keep 26 = .ok (.if_icmp .ge 20, 3) := by decide +kernel
theorem dX11_keep_29 : decode cX11_keep 29 = .ok (.iload_n 1, 1) := by decide +kernel
theorem dX11_keep_30 : decode cX11_keep 30 = .ok (.iconst 1, 1) := by decide +kernel
theorem dX11_keep_31 : decode cX11_keep 31 = .ok (.bipush 27, 2) := by decide +kernel
theorem dX11_keep_33 : decode cX11_keep 33 = .ok (.aload_n 0, 1) := by decide +kernel
theorem dX11_keep_34 : decode cX11_keep 34 = .ok (.getfield 84, 3) := by decide +kernel
theorem dX11_keep_37 : decode cX11_keep 37 = .ok (.isub, 1) := by decide +kernel
theorem dX11_keep_38 : decode cX11_keep 38 = .ok (.ishl, 1) := by decide +kernel
theorem dX11_keep_39 : decode cX11_keep 39 = .ok (.if_icmp .lt 7, 3) := by decide +kernel
theorem dX11_keep_42 : decode cX11_keep 42 = .ok (.iconst 1, 1) := by decide +kernel
theorem dX11_keep_43 : decode cX11_keep 43 = .ok (.goto 4, 3) := by decide +kernel
theorem dX11_keep_46 : decode cX11_keep 46 = .ok (.iconst 0, 1) := by decide +kernel
theorem dX11_keep_47 : decode cX11_keep 47 = .ok (.putfield 80, 3) := by decide +kernel
theorem dX11_keep_50 : decode cX11_keep 50 = .ok (.aload_n 0, 1) := by decide +kernel
theorem dX11_keep_51 : decode cX11_keep 51 = .ok (.iload_n 1, 1) := by decide +kernel
theorem dX11_keep_52 : decode cX11_keep 52 = .ok (.aload_n 0, 1) := by decide +kernel
theorem dX11_keep_53 : decode cX11_keep 53 = .ok (.invokevirtual 87, 3) := by decide +kernel
theorem dX11_keep_56 : decode cX11_keep 56 = .ok (.isub, 1) := by decide +kernel
theorem dX11_keep_57 : decode cX11_keep 57 = .ok (.putfield 91, 3) := by decide +kernel
theorem dX11_keep_60 : decode cX11_keep 60 = .ok (.return_, 1) := by decide +kernel
set_option maxRecDepth 20000 in
theorem ggX11_byteOut_X11_lastIsFull : GoodIn wsX11_byteOut wsX11_lastIsFull := goodIn_r _ [10, 3, 11, 2, 12, 13, 14, 15, 16, 17, 18, 19, 20, 21, 22, 23, 24, 25, 26, 27, 28, 29, 30, 31, 32, 33, 34, 35, 36, 37, 38, 39, 40, 41, 42, 43, 44, 45, 46, 47, 48, 49, 50, 51, 52, 53] (by decide +kernel) (by decide +kernel)
set_option maxRecDepth 20000 in
theorem gX11_byteOut_X11_lastIsFull : GoodIn wsX11_byteOut (wsV RX11 94 RX11 yX11_lastIsFull wsX11_lastIsFull) := goodIn_app (goodIn_of _ (by decide +kernel)) ggX11_byteOut_X11_lastIsFull
theorem dX11_byteOut_0 : decode cX11_byteOut 0 = .ok (.aload_n 0, 1) := by decide +kernel
theorem dX11_byteOut_1 : decode cX11_byteOut 1 = .ok (.getfield 80, 3) := by decide +kernel
theorem dX11_byteOut_4 : decode cX11_byteOut 4 = .ok (.ifCond .eq 18, 3) := by decide +kernel
theorem dX11_byteOut_7 : decode cX11_byteOut 7 = .ok (.aload_n 0, 1) := by decide +kernel
theorem dX11_byteOut_8 : decode cX11_byteOut 8 = .ok (.getfield 68, 3) := by decide +kernel
theorem dX11_byteOut_11 : decode cX11_byteOut 11 = .ok (.aload_n 0, 1) := by decide +kernel
theorem dX11_byteOut_12 : decode cX11_byteOut 12 = .ok (.getfield 74, 3) := by decide +kernel
theorem dX11_byteOut_15 : decode cX11_byteOut 15 = .ok (.iconst 1, 1) := by decide +kernel
theorem dX11_byteOut_16 : decode cX11_byteOut 16 = .ok (.isub, 1) := by decide +kernel
theorem dX11_byteOut_17 : decode cX11_byteOut 17 = .ok (.dup2, 1) := by decide +kernel
theorem dX11_byteOut_18 : decode cX11_byteOut 18 = .ok (.iaload, 1) := by decide +kernel
theorem dX11_byteOut_19 : decode cX11_byteOut 19 = .ok (.iconst 1, 1) := by decide +kernel
theorem dX11_byteOut_20 : decode cX11_byteOut 20 = .ok (.iadd, 1) := by decide +kernel
theorem dX11_byteOut_21 : decode cX11_byteOut 21 = .ok (.iastore, 1) := by decide +kernel
theorem dX11_byteOut_22 : decode cX11_byteOut 22 = .ok (.aload_n 0, 1) := by decide +kernel
theorem dX11_byteOut_23 : decode cX11_byteOut 23 = .ok (.iconst 0, 1) := by decide +kernel
theorem dX11_byteOut_24 : decode cX11_byteOut 24 = .ok (.putfield 80, 3) := by decide +kernel
theorem dX11_byteOut_27 : decode cX11_byteOut 27 = .ok (.aload_n 0, 1) := by decide +kernel
theorem dX11_byteOut_28 : decode cX11_byteOut 28 = .ok (.aload_n 0, 1) := by decide +kernel
theorem dX11_byteOut_29 : decode cX11_byteOut 29 = .ok (.invokevirtual 94, 3) := by decide +kernel
theorem dX11_byteOut_32 : decode cX11_byteOut 32 = .ok (.ifCond .eq 8, 3) := by decide +kernel
theorem dX11_byteOut_35 : decode cX11_byteOut 35 = .ok (.bipush 7, 2) := by decide +kernel
theorem dX11_byteOut_37 : decode cX11_byteOut 37 = .ok (.goto 5, 3) := by decide +kernel
theorem dX11_byteOut_40 : decode cX11_byteOut 40 = .ok (.bipush 8, 2) := by decide +kernel
theorem dX11_byteOut_42 : decode cX11_byteOut 42 = .ok (.putfield 84, 3) := by decide +kernel
theorem dX11_byteOut_45 : decode cX11_byteOut 45 = .ok (.bipush 27, 2) := by decide +kernel
theorem dX11_byteOut_47 : decode cX11_byteOut 47 = .ok (.aload_n 0, 1) := by decide +kernel
theorem dX11_byteOut_48 : decode cX11_byteOut 48 = .ok (.getfield 84, 3) := by decide +kernel
theorem dX11_byteOut_51 : decode cX11_byteOut 51 = .ok (.isub, 1) := by decide +kernel
theorem dX11_byteOut_52 : decode cX11_byteOut 52 = .ok (.istore_n 1, 1) := by decide +kernel
theorem dX11_byteOut_53 : decode cX11_byteOut 53 = .ok (.aload_n 0, 1) := by decide +kernel
theorem dX11_byteOut_54 : decode cX11_byteOut 54 = .ok (.getfield 68, 3) := by decide +kernel
theorem dX11_byteOut_57 : decode cX11_byteOut 57 = .ok (.aload_n 0, 1) := by decide +kernel
theorem dX11_byteOut_58 : decode cX11_byteOut 58 = .ok (.getfield 74, 3) := by decide +kernel
theorem dX11_byteOut_61 : decode cX11_byteOut 61 = .ok (.aload_n 0, 1) := by decide +kernel
theorem dX11_byteOut_62 : decode cX11_byteOut 62 = .ok (.getfield 91, 3) := by decide +kernel
theorem dX11_byteOut_65 : decode cX11_byteOut 65 = .ok (.iload_n 1, 1) := by decide +kernel
theorem dX11_byteOut_66 : decode cX11_byteOut 66 = .ok (.ishr, 1) := by decide +kernel
theorem dX11_byteOut_67 : decode cX11_byteOut 67 = .ok (.sipush 255, 3) := by decide +kernel
theorem dX11_byteOut_70 : decode cX11_byteOut 70 = .ok (.iand, 1) := by decide +kernel
theorem dX11_byteOut_71 : decode cX11_byteOut 71 = .ok (.iastore, 1) := by decide +kernel
theorem dX11_byteOut_72 : decode cX11_byteOut 72 = .ok (.aload_n 0, 1) := by decide +kernel
theorem dX11_byteOut_73 : decode cX11_byteOut 73 = .ok (.aload_n 0, 1) := by decide +kernel
theorem dX11_byteOut_74 : decode cX11_byteOut 74 = .ok (.getfield 91, 3) := by decide +kernel
theorem dX11_byteOut_77 : decode cX11_byteOut 77 = .ok (.iconst 1, 1) := by decide +kernel
theorem dX11_byteOut_78 : decode cX11_byteOut 78 = .ok (.iload_n 1, 1) := by decide +kernel
theorem dX11_byteOut_79 : decode cX11_byteOut 79 = .ok (.ishl, 1) := by decide +kernel
theorem dX11_byteOut_80 : decode cX11_byteOut 80 = .ok (.iconst 1, 1) := by decide +kernel
theorem dX11_byteOut_81 : decode cX11_byteOut 81 = .ok (.isub, 1) := by decide +kernel
theorem dX11_byteOut_82 : decode cX11_byteOut 82 = .ok (.iand, 1) := by decide +kernel
theorem dX11_byteOut_83 : decode cX11_byteOut 83 = .ok (.putfield 91, 3) := by decide +kernel
theorem dX11_byteOut_86 : decode cX11_byteOut 86 = .ok (.aload_n 0, 1) := by decide +kernel
theorem dX11_byteOut_87 : decode cX11_byteOut 87 = .ok (.dup, 1) := by decide +kernel
theorem dX11_byteOut_88 : decode cX11_byteOut 88 = .ok (.getfield 74, 3) := by decide +kernel
theorem dX11_byteOut_91 : decode cX11_byteOut 91 = .ok (.iconst 1, 1) := by decide +kernel
theorem dX11_byteOut_92 : decode cX11_byteOut 92 = .ok (.iadd, 1) := by decide +kernel
theorem dX11_byteOut_93 : decode cX11_byteOut 93 = .ok (.putfield 74, 3) := by decide +kernel
theorem dX11_byteOut_96 : decode cX11_byteOut 96 = .ok (.return_, 1) := by decide +kernel
set_option maxRecDepth 20000 in
theorem ggX11_push_X11_byteOut : GoodIn wsX11_push wsX11_byteOut := goodIn_r _ [7, 8, 9, 10, 2, 1, 11, 12, 13, 6, 14, 15, 16, 17, 18, 19, 20, 21, 22, 23, 24, 25, 26, 27, 28, 29, 30, 31, 32, 33, 34, 35, 36, 37, 38, 39, 40, 41, 42, 43, 44, 45, 46, 47, 48, 49, 50, 51, 52, 53, 54, 55, 56, 57] (by decide +kernel) (by decide +kernel)
set_option maxRecDepth 20000 in
theorem gX11_push_X11_byteOut : GoodIn wsX11_push (wsV RX11 98 RX11 yX11_byteOut wsX11_byteOut) := goodIn_app (goodIn_of _ (by decide +kernel)) ggX11_push_X11_byteOut
theorem dX11_push_0 : decode cX11_push 0 = .ok (.aload_n 0, 1) := by decide +kernel
theorem dX11_push_1 : decode cX11_push 1 = .ok (.aload_n 0, 1) := by decide +kernel
theorem dX11_push_2 : decode cX11_push 2 = .ok (.getfield 91, 3) := by decide +kernel
theorem dX11_push_5 : decode cX11_push 5 = .ok (.aload_n 0, 1) := by decide +kernel
theorem dX11_push_6 : decode cX11_push 6 = .ok (.getfield 84, 3) := by decide +kernel
theorem dX11_push_9 : decode cX11_push 9 = .ok (.ishl, 1) := by decide +kernel
theorem dX11_push_10 : decode cX11_push 10 = .ok (.putfield 91, 3) := by decide +kernel
theorem dX11_push_13 : decode cX11_push 13 = .ok (.aload_n 0, 1) := by decide +kernel
theorem dX11_push_14 : decode cX11_push 14 = .ok (.invokevirtual 98, 3) := by decide +kernel
theorem dX11_push_17 : decode cX11_push 17 = .ok (.return_, 1) := by decide +kernel
set_option maxRecDepth 20000 in
theorem ggX11_writeCoded_X11_carry : GoodIn wsX11_writeCoded wsX11_carry := goodIn_r _ [12, 13, 7, 34, 35, 36, 37, 38, 39, 40, 41, 42, 43, 44, 45, 46, 47, 48, 49, 50, 51, 52, 53, 54, 55, 56, 57, 58, 59, 60, 61, 62, 63, 64, 65, 66, 67, 68, 69, 70, 71, 72, 73, 74, 75] (by decide +kernel) (by decide +kernel)
set_option maxRecDepth 20000 in
theorem gX11_writeCoded_X11_carry : GoodIn wsX11_writeCoded (wsV RX11 87 RX11 yX11_carry wsX11_carry) := goodIn_app (goodIn_of _ (by decide +kernel)) ggX11_writeCoded_X11_carry
set_option maxRecDepth 20000 in
theorem ggX11_writeCoded_X11_keep : GoodIn wsX11_writeCoded wsX11_keep := goodIn_r _ [17, 18, 19, 20, 7, 13, 6, 8, 9, 10, 11, 12, 34, 35, 36, 37, 38, 39, 40, 41, 42, 43, 44, 45, 46, 47, 48, 49, 50, 51, 52, 53, 54, 55, 56, 57, 58, 59, 60, 61, 62, 63, 64, 65, 66, 67, 68, 69, 70, 71, 72, 73, 74, 75] (by decide +kernel) (by decide +kernel)
set_option maxRecDepth 20000 in
theorem gX11_writeCoded_X11_keep : GoodIn wsX11_writeCoded (wsV RX11 105 RX11 yX11_keep wsX11_keep) := goodIn_app (goodIn_of _ (by decide +kernel)) ggX11_writeCoded_X11_keep
set_option maxRecDepth 20000 in
theorem ggX11_writeCoded_X11_changeContext : GoodIn wsX11_writeCoded wsX11_changeContext := goodIn_r _ [24, 2, 3, 25, 34, 35, 36, 37, 38, 39, 40, 41, 42, 43, 44, 45, 46, 47, 48, 49, 50, 51, 52, 53, 54, 55, 56, 57, 58, 59, 60, 61, 62, 63, 64, 65, 66, 67, 68, 69, 70, 71, 72, 73, 74, 75] (by decide +kernel) (by decide +kernel)
set_option maxRecDepth 20000 in
theorem gX11_writeCoded_X11_changeContext : GoodIn wsX11_writeCoded (wsV RX11 109 RX11 yX11_changeContext wsX11_changeContext) := goodIn_app (goodIn_of _ (by decide +kernel)) ggX11_writeCoded_X11_changeContext
set_option maxRecDepth 20000 in
theorem ggX11_writeCoded_X11_byteOut : GoodIn wsX11_writeCoded wsX11_byteOut := goodIn_r _ [29, 13, 20, 18, 7, 6, 30, 31, 32, 11, 33, 19, 34, 35, 36, 37, 38, 39, 40, 41, 42, 43, 44, 45, 46, 47, 48, 49, 50, 51, 52, 53, 54, 55, 56, 57, 58, 59, 60, 61, 62, 63, 64, 65, 66, 67, 68, 69, 70, 71, 72, 73, 74, 75] (by decide +kernel) (by decide +kernel)
set_option maxRecDepth 20000 in
theorem gX11_writeCoded_X11_byteOut : GoodIn wsX11_writeCoded (wsV RX11 98 RX11 yX11_byteOut wsX11_byteOut) := goodIn_app (goodIn_of _ (by decide +kernel)) ggX11_writeCoded_X11_byteOut
theorem dX11_writeCoded_0 : decode cX11_writeCoded 0 = .ok (.aload_n 0, 1) := by decide +kernel
theorem dX11_writeCoded_1 : decode cX11_writeCoded 1 = .ok (.getfield 7, 3) := by decide +kernel
theorem dX11_writeCoded_4 : decode cX11_writeCoded 4 = .ok (.aload_n 0, 1) := by decide +kernel
theorem dX11_writeCoded_5 : decode cX11_writeCoded 5 = .ok (.getfield 61, 3) := by decide +kernel
theorem dX11_writeCoded_8 : decode cX11_writeCoded 8 = .ok (.iload_n 1, 1) := by decide +kernel
theorem dX11_writeCoded_9 : decode cX11_writeCoded 9 = .ok (.iaload, 1) := by decide +kernel
theorem dX11_writeCoded_10 : decode cX11_writeCoded 10 = .ok (.iaload, 1) := by decide +kernel
theorem dX11_writeCoded_11 : decode cX11_writeCoded 11 = .ok (.istore_n 3, 1) := by decide +kernel
theorem dX11_writeCoded_12 : decode cX11_writeCoded 12 = .ok (.iload_n 2, 1) := by decide +kernel
theorem dX11_writeCoded_13 : decode cX11_writeCoded 13 = .ok (.aload_n 0, 1) := by decide +kernel
theorem dX11_writeCoded_14 : decode cX11_writeCoded 14 = .ok (.getfield 64, 3) := by decide +kernel
theorem dX11_writeCoded_17 : decode cX11_writeCoded 17 = .ok (.iload_n 1, 1) := by decide +kernel
theorem dX11_writeCoded_18 : decode cX11_writeCoded 18 = .ok (.iaload, 1) := by decide +kernel
theorem dX11_writeCoded_19 : decode cX11_writeCoded 19 = .ok (.if_icmp .ne 7, 3) := by decide +kernel
theorem dX11_writeCoded_22 : decode cX11_writeCoded 22 = .ok (.iconst 1, 1) := by decide +kernel
theorem dX11_writeCoded_23 : decode cX11_writeCoded 23 = .ok (.goto 4, 3) := by decide +kernel
theorem dX11_writeCoded_26 : decode cX11_writeCoded 26 = .ok (.iconst 0, 1) := by decide +kernel
theorem dX11_writeCoded_27 : decode cX11_writeCoded 27 = .ok (.istore 4, 2) := by decide +kernel
theorem dX11_writeCoded_29 : decode cX11_writeCoded 29 = .ok (.aload_n 0, 1) := by decide +kernel
theorem dX11_writeCoded_30 : decode cX11_writeCoded 30 = .ok (.aload_n 0, 1) := by decide +kernel
theorem dX11_writeCoded_31 : decode cX11_writeCoded 31 = .ok (.getfield 101, 3) := by decide +kernel
theorem dX11_writeCoded_34 : decode cX11_writeCoded 34 = .ok (.iload_n 3, 1) := by decide +kernel
theorem dX11_writeCoded_35 : decode cX11_writeCoded 35 = .ok (.isub, 1) := by decide +kernel
theorem dX11_writeCoded_36 : decode cX11_writeCoded 36 = .ok (.putfield 101, 3) := by decide +kernel
theorem dX11_writeCoded_39 : decode cX11_writeCoded 39 = .ok (.iload 4, 2) := by decide +kernel
theorem dX11_writeCoded_41 : decode cX11_writeCoded 41 = .ok (.ifCond .eq 16, 3) := by decide +kernel
theorem dX11_writeCoded_44 : decode cX11_writeCoded 44 = .ok (.aload_n 0, 1) := by decide +kernel
theorem dX11_writeCoded_45 : decode cX11_writeCoded 45 = .ok (.getfield 101, 3) := by decide +kernel
theorem dX11_writeCoded_48 : decode cX11_writeCoded 48 = .ok (.ldc 104, 2) := by decide +kernel
theorem dX11_writeCoded_50 : decode cX11_writeCoded 50 = .ok (.if_icmp .lt 7, 3) := by decide +kernel
theorem dX11_writeCoded_53 : decode cX11_writeCoded 53 = .ok (.iconst 1, 1) := by decide +kernel
theorem dX11_writeCoded_54 : decode cX11_writeCoded 54 = .ok (.goto 4, 3) := by decide +kernel
theorem dX11_writeCoded_57 : decode cX11_writeCoded 57 = .ok (.iconst 0, 1) := by decide +kernel
theorem dX11_writeCoded_58 : decode cX11_writeCoded 58 = .ok (.istore 5, 2) := by decide +kernel
theorem dX11_writeCoded_60 : decode cX11_writeCoded 60 = .ok (.iload 5, 2) := by decide +kernel
theorem dX11_writeCoded_62 : decode cX11_writeCoded 62 = .ok (.ifCond .ne 21, 3) := by decide +kernel
theorem dX11_writeCoded_65 : decode cX11_writeCoded 65 = .ok (.iload 4, 2) := by decide +kernel
theorem dX11_writeCoded_67 : decode cX11_writeCoded 67 = .ok (.aload_n 0, 1) := by decide +kernel
theorem dX11_writeCoded_68 : decode cX11_writeCoded 68 = .ok (.getfield 101, 3) := by decide +kernel
theorem dX11_writeCoded_71 : decode cX11_writeCoded 71 = .ok (.iload_n 3, 1) := by decide +kernel
theorem dX11_writeCoded_72 : decode cX11_writeCoded 72 = .ok (.if_icmp .ge 7, 3) := by decide +kernel
theorem dX11_writeCoded_75 : decode cX11_writeCoded 75 = .ok (.iconst 1, 1) := by decide +kernel
theorem dX11_writeCoded_76 : decode cX11_writeCoded 76 = .ok (.goto 4, 3) := by decide +kernel
theorem dX11_writeCoded_79 : decode cX11_writeCoded 79 = .ok (.iconst 0, 1) := by decide +kernel
theorem dX11_writeCoded_80 : decode cX11_writeCoded 80 = .ok (.if_icmp .eq 21, 3) := by decide +kernel
theorem dX11_writeCoded_83 : decode cX11_writeCoded 83 = .ok (.aload_n 0, 1) := by decide +kernel
theorem dX11_writeCoded_84 : decode cX11_writeCoded 84 = .ok (.aload_n 0, 1) := by decide +kernel
theorem dX11_writeCoded_85 : decode cX11_writeCoded 85 = .ok (.getfield 91, 3) := by decide +kernel
theorem dX11_writeCoded_88 : decode cX11_writeCoded 88 = .ok (.aload_n 0, 1) := by decide +kernel
theorem dX11_writeCoded_89 : decode cX11_writeCoded 89 = .ok (.invokevirtual 87, 3) := by decide +kernel
theorem dX11_writeCoded_92 : decode cX11_writeCoded 92 = .ok (.iadd, 1) := by decide +kernel
theorem dX11_writeCoded_93 : decode cX11_writeCoded 93 = .ok (.iload_n 3, 1) := by decide +kernel
theorem dX11_writeCoded_94 : decode cX11_writeCoded 94 = .ok (.iadd, 1) := by decide +kernel
theorem dX11_writeCoded_95 : decode cX11_writeCoded 95 = .ok (.invokevirtual 105, 3) := by decide +kernel
theorem dX11_writeCoded_98 : decode cX11_writeCoded 98 = .ok (.goto 8, 3) := by decide +kernel
theorem dX11_writeCoded_101 : decode cX11_writeCoded 101 = .ok (.aload_n 0, 1) := by decide +kernel
theorem dX11_writeCoded_102 : decode cX11_writeCoded 102 = .ok (.iload_n 3, 1) := by decide +kernel
theorem dX11_writeCoded_103 : decode cX11_writeCoded 103 = .ok (.putfield 101, 3) := by decide +kernel
theorem dX11_writeCoded_106 : decode cX11_writeCoded 106 = .ok (.iload 5, 2) := by decide +kernel
theorem dX11_writeCoded_108 : decode cX11_writeCoded 108 = .ok (.ifCond .ne 10, 3) := by decide +kernel
theorem dX11_writeCoded_111 : decode cX11_writeCoded 111 = .ok (.aload_n 0, 1) := by decide +kernel
theorem dX11_writeCoded_112 : decode cX11_writeCoded 112 = .ok (.iload_n 1, 1) := by decide +kernel
theorem dX11_writeCoded_113 : decode cX11_writeCoded 113 = .ok (.iload 4, 2) := by decide +kernel
theorem dX11_writeCoded_115 : decode cX11_writeCoded 115 = .ok (.invokevirtual 109, 3) := by decide +kernel
theorem dX11_writeCoded_118 : decode cX11_writeCoded 118 = .ok (.aload_n 0, 1) := by decide +kernel
theorem dX11_writeCoded_119 : decode cX11_writeCoded 119 = .ok (.getfield 101, 3) := by decide +kernel
theorem dX11_writeCoded_122 : decode cX11_writeCoded 122 = .ok (.ldc 104, 2) := by decide +kernel
theorem dX11_writeCoded_124 : decode cX11_writeCoded 124 = .ok (.if_icmp .ge 53, 3) := by decide +kernel
theorem dX11_writeCoded_127 : decode cX11_writeCoded 127 = .ok (.aload_n 0, 1) := by decide +kernel
theorem dX11_writeCoded_128 : decode cX11_writeCoded 128 = .ok (.aload_n 0, 1) := by decide +kernel
theorem dX11_writeCoded_129 : decode cX11_writeCoded 129 = .ok (.getfield 101, 3) := by decide +kernel
theorem dX11_writeCoded_132 : decode cX11_writeCoded 132 = .ok (.aload_n 0, 1) := by decide +kernel
theorem dX11_writeCoded_133 : decode cX11_writeCoded 133 = .ok (.getfield 101, 3) := by decide +kernel
theorem dX11_writeCoded_136 : decode cX11_writeCoded 136 = .ok (.iadd, 1) := by decide +kernel
theorem dX11_writeCoded_137 : decode cX11_writeCoded 137 = .ok (.putfield 101, 3) := by decide +kernel
theorem dX11_writeCoded_140 : decode cX11_writeCoded 140 = .ok (.aload_n 0, 1) := by decide +kernel
theorem dX11_writeCoded_141 : decode cX11_writeCoded 141 = .ok (.aload_n 0, 1) := by decide +kernel
theorem dX11_writeCoded_142 : decode cX11_writeCoded 142 = .ok (.getfield 91, 3) := by decide +kernel
theorem dX11_writeCoded_145 : decode cX11_writeCoded 145 = .ok (.aload_n 0, 1) := by decide +kernel
theorem dX11_writeCoded_146 : decode cX11_writeCoded 146 = .ok (.getfield 91, 3) := by decide +kernel
theorem dX11_writeCoded_149 : decode cX11_writeCoded 149 = .ok (.iadd, 1) := by decide +kernel
theorem dX11_writeCoded_150 : decode cX11_writeCoded 150 = .ok (.putfield 91, 3) := by decide +kernel
theorem dX11_writeCoded_153 : decode cX11_writeCoded 153 = .ok (.aload_n 0, 1) := by decide +kernel
theorem dX11_writeCoded_154 : decode cX11_writeCoded 154 = .ok (.dup, 1) := by decide +kernel
theorem dX11_writeCoded_155 : decode cX11_writeCoded 155 = .ok (.getfield 84, 3) := by decide +kernel
theorem dX11_writeCoded_158 : decode cX11_writeCoded 158 = .ok (.iconst 1, 1) := by decide +kernel
theorem dX11_writeCoded_159 : decode cX11_writeCoded 159 = .ok (.isub, 1) := by decide +kernel
theorem dX11_writeCoded_160 : decode cX11_writeCoded 160 = .ok (.putfield 84, 3) := by decide +kernel
theorem dX11_writeCoded_163 : decode cX11_writeCoded 163 = .ok (.aload_n 0, 1) := by decide +kernel
theorem dX11_writeCoded_164 : decode cX11_writeCoded 164 = .ok (.getfield 84, 3) := by decide +kernel
theorem dX11_writeCoded_167 : decode cX11_writeCoded 167 = .ok (.ifCond .ne (-49), 3) := by decide +kernel
theorem dX11_writeCoded_170 : decode cX11_writeCoded 170 = .ok (.aload_n 0, 1) := by decide +kernel
theorem dX11_writeCoded_171 : decode cX11_writeCoded 171 = .ok (.invokevirtual 98, 3) := by decide +kernel
theorem dX11_writeCoded_174 : decode cX11_writeCoded 174 = .ok (.goto (-56), 3) := by decide +kernel
theorem dX11_writeCoded_177 : decode cX11_writeCoded 177 = .ok (.return_, 1) := by decide +kernel
set_option maxRecDepth 20000 in
theorem ggX11_writeRaw_X11_lastIsFull : GoodIn wsX11_writeRaw wsX11_lastIsFull := goodIn_r _ [8, 3, 9, 2, 10, 11, 12, 13, 14, 15, 16, 17, 18, 19, 20, 21, 22, 23, 24, 25, 26, 27, 28, 29, 30, 31, 32, 33, 34, 35, 36, 37, 38, 39, 40, 41, 42, 43, 44, 45, 46, 47, 48, 49, 50, 51] (by decide +kernel) (by decide +kernel)
set_option maxRecDepth 20000 in
theorem gX11_writeRaw_X11_lastIsFull : GoodIn wsX11_writeRaw (wsV RX11 94 RX11 yX11_lastIsFull wsX11_lastIsFull) := goodIn_app (goodIn_of _ (by decide +kernel)) ggX11_writeRaw_X11_lastIsFull
theorem dX11_writeRaw_0 : decode cX11_writeRaw 0 = .ok (.aload_n 0, 1) := by decide +kernel
theorem dX11_writeRaw_1 : decode cX11_writeRaw 1 = .ok (.getfield 84, 3) := by decide +kernel
theorem dX11_writeRaw_4 : decode cX11_writeRaw 4 = .ok (.ifCond .ne 41, 3) := by decide +kernel
theorem dX11_writeRaw_7 : decode cX11_writeRaw 7 = .ok (.aload_n 0, 1) := by decide +kernel
theorem dX11_writeRaw_8 : decode cX11_writeRaw 8 = .ok (.aload_n 0, 1) := by decide +kernel
theorem dX11_writeRaw_9 : decode cX11_writeRaw 9 = .ok (.invokevirtual 94, 3) := by decide +kernel
theorem dX11_writeRaw_12 : decode cX11_writeRaw 12 = .ok (.ifCond .eq 8, 3) := by decide +kernel
theorem dX11_writeRaw_15 : decode cX11_writeRaw 15 = .ok (.bipush 7, 2) := by decide +kernel
theorem dX11_writeRaw_17 : decode cX11_writeRaw 17 = .ok (.goto 5, 3) := by decide +kernel
theorem dX11_writeRaw_20 : decode cX11_writeRaw 20 = .ok (.bipush 8, 2) := by decide +kernel
theorem dX11_writeRaw_22 : decode cX11_writeRaw 22 = .ok (.putfield 84, 3) := by decide +kernel
theorem dX11_writeRaw_25 : decode cX11_writeRaw 25 = .ok (.aload_n 0, 1) := by decide +kernel
theorem dX11_writeRaw_26 : decode cX11_writeRaw 26 = .ok (.getfield 68, 3) := by decide +kernel
theorem dX11_writeRaw_29 : decode cX11_writeRaw 29 = .ok (.aload_n 0, 1) := by decide +kernel
theorem dX11_writeRaw_30 : decode cX11_writeRaw 30 = .ok (.getfield 74, 3) := by decide +kernel
theorem dX11_writeRaw_33 : decode cX11_writeRaw 33 = .ok (.iconst 0, 1) := by decide +kernel
theorem dX11_writeRaw_34 : decode cX11_writeRaw 34 = .ok (.iastore, 1) := by decide +kernel
theorem dX11_writeRaw_35 : decode cX11_writeRaw 35 = .ok (.aload_n 0, 1) := by decide +kernel
theorem dX11_writeRaw_36 : decode cX11_writeRaw 36 = .ok (.dup, 1) := by decide +kernel
theorem dX11_writeRaw_37 : decode cX11_writeRaw 37 = .ok (.getfield 74, 3) := by decide +kernel
theorem dX11_writeRaw_40 : decode cX11_writeRaw 40 = .ok (.iconst 1, 1) := by decide +kernel
theorem dX11_writeRaw_41 : decode cX11_writeRaw 41 = .ok (.iadd, 1) := by decide +kernel
theorem dX11_writeRaw_42 : decode cX11_writeRaw 42 = .ok (.putfield 74, 3) := by decide +kernel
theorem dX11_writeRaw_45 : decode cX11_writeRaw 45 = .ok (.aload_n 0, 1) := by decide +kernel
theorem dX11_writeRaw_46 : decode cX11_writeRaw 46 = .ok (.dup, 1) := by decide +kernel
theorem dX11_writeRaw_47 : decode cX11_writeRaw 47 = .ok (.getfield 84, 3) := by decide +kernel
theorem dX11_writeRaw_50 : decode cX11_writeRaw 50 = .ok (.iconst 1, 1) := by decide +kernel
theorem dX11_writeRaw_51 : decode cX11_writeRaw 51 = .ok (.isub, 1) := by decide +kernel
theorem dX11_writeRaw_52 : decode cX11_writeRaw 52 = .ok (.putfield 84, 3) := by decide +kernel
theorem dX11_writeRaw_55 : decode cX11_writeRaw 55 = .ok (.aload_n 0, 1) := by decide +kernel
theorem dX11_writeRaw_56 : decode cX11_writeRaw 56 = .ok (.getfield 68, 3) := by decide +kernel
theorem dX11_writeRaw_59 : decode cX11_writeRaw 59 = .ok (.aload_n 0, 1) := by decide +kernel
theorem dX11_writeRaw_60 : decode cX11_writeRaw 60 = .ok (.getfield 74, 3) := by decide +kernel
theorem dX11_writeRaw_63 : decode cX11_writeRaw 63 = .ok (.iconst 1, 1) := by decide +kernel
theorem dX11_writeRaw_64 : decode cX11_writeRaw 64 = .ok (.isub, 1) := by decide +kernel
theorem dX11_writeRaw_65 : decode cX11_writeRaw 65 = .ok (.aload_n 0, 1) := by decide +kernel
theorem dX11_writeRaw_66 : decode cX11_writeRaw 66 = .ok (.getfield 68, 3) := by decide +kernel
theorem dX11_writeRaw_69 : decode cX11_writeRaw 69 = .ok (.aload_n 0, 1) := by decide +kernel
theorem dX11_writeRaw_70 : decode cX11_writeRaw 70 = .ok (.getfield 74, 3) := by decide +kernel
theorem dX11_writeRaw_73 : decode cX11_writeRaw 73 = .ok (.iconst 1, 1) := by decide +kernel
theorem dX11_writeRaw_74 : decode cX11_writeRaw 74 = .ok (.isub, 1) := by decide +kernel
theorem dX11_writeRaw_75 : decode cX11_writeRaw 75 = .ok (.iaload, 1) := by decide +kernel
theorem dX11_writeRaw_76 : decode cX11_writeRaw 76 = .ok (.iload_n 1, 1) := by decide +kernel
theorem dX11_writeRaw_77 : decode cX11_writeRaw 77 = .ok (.aload_n 0, 1) := by decide +kernel
theorem dX11_writeRaw_78 : decode cX11_writeRaw 78 = .ok (.getfield 84, 3) := by decide +kernel
theorem dX11_writeRaw_81 : decode cX11_writeRaw 81 = .ok (.ishl, 1) := by decide +kernel
theorem dX11_writeRaw_82 : decode cX11_writeRaw 82 = .ok (.ior, 1) := by decide +kernel
theorem dX11_writeRaw_83 : decode cX11_writeRaw 83 = .ok (.iastore, 1) := by decide +kernel
theorem dX11_writeRaw_84 : decode cX11_writeRaw 84 = .ok (.return_, 1) := by decide +kernel
theorem dX11_open_0 : decode cX11_open 0 = .ok (.aload_n 0, 1) := by decide +kernel
theorem dX11_open_1 : decode cX11_open 1 = .ok (.aload_n 0, 1) := by decide +kernel
theorem dX11_open_2 : decode cX11_open 2 = .ok (.getfield 74, 3) := by decide +kernel
theorem dX11_open_5 : decode cX11_open 5 = .ok (.putfield 77, 3) := by decide +kernel
theorem dX11_open_8 : decode cX11_open 8 = .ok (.aload_n 0, 1) := by decide +kernel
theorem dX11_open_9 : decode cX11_open 9 = .ok (.iconst 0, 1) := by decide +kernel
theorem dX11_open_10 : decode cX11_open 10 = .ok (.putfield 91, 3) := by decide +kernel
theorem dX11_open_13 : decode cX11_open 13 = .ok (.aload_n 0, 1) := by decide +kernel
theorem dX11_open_14 : decode cX11_open 14 = .ok (.iconst 0, 1) := by decide +kernel
theorem dX11_open_15 : decode cX11_open 15 = .ok (.putfield 80, 3) := by decide +kernel
theorem dX11_open_18 : decode cX11_open 18 = .ok (.aload_n 0, 1) := by decide +kernel
theorem dX11_open_19 : decode cX11_open 19 = .ok (.ldc 104, 2) := by decide +kernel
theorem dX11_open_21 : decode cX11_open 21 = .ok (.putfield 101, 3) := by decide +kernel
theorem dX11_open_24 : decode cX11_open 24 = .ok (.aload_n 0, 1) := by decide +kernel
theorem dX11_open_25 : decode cX11_open 25 = .ok (.aload_n 0, 1) := by decide +kernel
theorem dX11_open_26 : decode cX11_open 26 = .ok (.getfield 113, 3) := by decide +kernel
theorem dX11_open_29 : decode cX11_open 29 = .ok (.ifCond .eq 7, 3) := by decide +kernel
theorem dX11_open_32 : decode cX11_open 32 = .ok (.iconst 0, 1) := by decide +kernel
theorem dX11_open_33 : decode cX11_open 33 = .ok (.goto 5, 3) := by decide +kernel
theorem dX11_open_36 : decode cX11_open 36 = .ok (.bipush 12, 2) := by decide +kernel
theorem dX11_open_38 : decode cX11_open 38 = .ok (.putfield 84, 3) := by decide +kernel
theorem dX11_open_41 : decode cX11_open 41 = .ok (.return_, 1) := by decide +kernel
set_option maxRecDepth 20000 in
theorem ggX11_close_X11_writeRaw : GoodIn wsX11_close wsX11_writeRaw := goodIn_r _ [13, 2, 14, 8, 15, 16, 17, 12, 18, 19, 37, 38, 39, 40, 41, 42, 43, 44, 45, 46, 47, 48, 49, 50, 51, 52, 53, 54, 55, 56, 57, 58, 59, 60, 61, 62, 63, 64, 65, 66, 67, 68, 69, 70, 71, 72, 73, 74, 75, 76, 77, 78] (by decide +kernel) (by decide +kernel)
set_option maxRecDepth 20000 in
theorem gX11_close_X11_writeRaw : GoodIn wsX11_close (wsV RX11 116 RX11 yX11_writeRaw wsX11_writeRaw) := goodIn_app (goodIn_of _ (by decide +kernel)) ggX11_close_X11_writeRaw
set_option maxRecDepth 20000 in
theorem ggX11_close_X11_carry : GoodIn wsX11_close wsX11_carry := goodIn_r _ [23, 24, 2, 37, 38, 39, 40, 41, 42, 43, 44, 45, 46, 47, 48, 49, 50, 51, 52, 53, 54, 55, 56, 57, 58, 59, 60, 61, 62, 63, 64, 65, 66, 67, 68, 69, 70, 71, 72, 73, 74, 75, 76, 77, 78] (by decide +kernel) (by decide +kernel)
set_option maxRecDepth 20000 in
theorem gX11_close_X11_carry : GoodIn wsX11_close (wsV RX11 87 RX11 yX11_carry wsX11_carry) := goodIn_app (goodIn_of _ (by decide +kernel)) ggX11_close_X11_carry
set_option maxRecDepth 20000 in
theorem ggX11_close_X11_keep : GoodIn wsX11_close wsX11_keep := goodIn_r _ [28, 8, 19, 14, 2, 24, 4, 20, 21, 22, 12, 23, 37, 38, 39, 40, 41, 42, 43, 44, 45, 46, 47, 48, 49, 50, 51, 52, 53, 54, 55, 56, 57, 58, 59, 60, 61, 62, 63, 64, 65, 66, 67, 68, 69, 70, 71, 72, 73, 74, 75, 76, 77, 78] (by decide +kernel) (by decide +kernel)
set_option maxRecDepth 20000 in
theorem gX11_close_X11_keep : GoodIn wsX11_close (wsV RX11 105 RX11 yX11_keep wsX11_keep) := goodIn_app (goodIn_of _ (by decide +kernel)) ggX11_close_X11_keep
set_option maxRecDepth 20000 in
theorem ggX11_close_X11_push : GoodIn wsX11_close wsX11_push := goodIn_r _ [32, 4, 2, 33, 34, 35, 12, 36, 24, 14, 8, 15, 16, 17, 18, 19, 37, 38, 39, 40, 41, 42, 43, 44, 45, 46, 47, 48, 49, 50, 51, 52, 53, 54, 55, 56, 57, 58, 59, 60, 61, 62, 63, 64, 65, 66, 67, 68, 69, 70, 71, 72, 73, 74, 75, 76, 77, 78] (by decide +kernel) (by decide +kernel)
set_option maxRecDepth 20000 in
theorem gX11_close_X11_push : GoodIn wsX11_close (wsV RX11 123 RX11 yX11_push wsX11_push) := goodIn_app (goodIn_of _ (by decide +kernel)) ggX11_close_X11_push
set_option maxRecDepth 20000 in
theorem ggX11_close_X11_lastIsFull : GoodIn wsX11_close wsX11_lastIsFull := goodIn_r _ [18, 8, 19, 14, 37, 38, 39, 40, 41, 42, 43, 44, 45, 46, 47, 48, 49, 50, 51, 52, 53, 54, 55, 56, 57, 58, 59, 60, 61, 62, 63, 64, 65, 66, 67, 68, 69, 70, 71, 72, 73, 74, 75, 76, 77, 78] (by decide +kernel) (by decide +kernel)
set_option maxRecDepth 20000 in
theorem gX11_close_X11_lastIsFull : GoodIn wsX11_close (wsV RX11 94 RX11 yX11_lastIsFull wsX11_lastIsFull) := goodIn_app (goodIn_of _ (by decide +kernel)) ggX11_close_X11_lastIsFull
theorem dX11_close_0 : decode cX11_close 0 = .ok (.aload_n 0, 1) := by decide +kernel
theorem dX11_close_1 : decode cX11_close 1 = .ok (.getfield 113, 3) := by decide +kernel
theorem dX11_close_4 : decode cX11_close 4 = .ok (.ifCond .eq 27, 3) := by decide +kernel
theorem dX11_close_7 : decode cX11_close 7 = .ok (.iconst 0, 1) := by decide +kernel
theorem dX11_close_8 : decode cX11_close 8 = .ok (.istore_n 1, 1) := by decide +kernel
theorem dX11_close_9 : decode cX11_close 9 = .ok (.aload_n 0, 1) := by decide +kernel
theorem dX11_close_10 : decode cX11_close 10 = .ok (.getfield 84, 3) := by decide +kernel
theorem dX11_close_13 : decode cX11_close 13 = .ok (.ifCond .le 15, 3) := by decide +kernel
theorem dX11_close_16 : decode cX11_close 16 = .ok (.aload_n 0, 1) := by decide +kernel
theorem dX11_close_17 : decode cX11_close 17 = .ok (.iload_n 1, 1) := by decide +kernel
theorem dX11_close_18 : decode cX11_close 18 = .ok (.invokevirtual 116, 3) := by decide +kernel
theorem dX11_close_21 : decode cX11_close 21 = .ok (.iconst 1, 1) := by decide +kernel
theorem dX11_close_22 : decode cX11_close 22 = .ok (.iload_n 1, 1) := by decide +kernel
theorem dX11_close_23 : decode cX11_close 23 = .ok (.isub, 1) := by decide +kernel
theorem dX11_close_24 : decode cX11_close 24 = .ok (.istore_n 1, 1) := by decide +kernel
theorem dX11_close_25 : decode cX11_close 25 = .ok (.goto (-16), 3) := by decide +kernel
theorem dX11_close_28 : decode cX11_close 28 = .ok (.goto 87, 3) := by decide +kernel
theorem dX11_close_31 : decode cX11_close 31 = .ok (.aload_n 0, 1) := by decide +kernel
theorem dX11_close_32 : decode cX11_close 32 = .ok (.getfield 119, 3) := by decide +kernel
theorem dX11_close_35 : decode cX11_close 35 = .ok (.bipush 16, 2) := by decide +kernel
theorem dX11_close_37 : decode cX11_close 37 = .ok (.iand, 1) := by decide +kernel
theorem dX11_close_38 : decode cX11_close 38 = .ok (.ifCond .ne 51, 3) := by decide +kernel
theorem dX11_close_41 : decode cX11_close 41 = .ok (.aload_n 0, 1) := by decide +kernel
theorem dX11_close_42 : decode cX11_close 42 = .ok (.getfield 91, 3) := by decide +kernel
theorem dX11_close_45 : decode cX11_close 45 = .ok (.aload_n 0, 1) := by decide +kernel
theorem dX11_close_46 : decode cX11_close 46 = .ok (.invokevirtual 87, 3) := by decide +kernel
theorem dX11_close_49 : decode cX11_close 49 = .ok (.iadd, 1) := by decide +kernel
theorem dX11_close_50 : decode cX11_close 50 = .ok (.istore_n 1, 1) := by decide +kernel
theorem dX11_close_51 : decode cX11_close 51 = .ok (.iload_n 1, 1) := by decide +kernel
theorem dX11_close_52 : decode cX11_close 52 = .ok (.ldc 122, 2) := by decide +kernel
theorem dX11_close_54 : decode cX11_close 54 = .ok (.ior, 1) := by decide +kernel
theorem dX11_close_55 : decode cX11_close 55 = .ok (.istore_n 2, 1) := by decide +kernel
theorem dX11_close_56 : decode cX11_close 56 = .ok (.aload_n 0, 1) := by decide +kernel
theorem dX11_close_57 : decode cX11_close 57 = .ok (.iload_n 2, 1) := by decide +kernel
theorem dX11_close_58 : decode cX11_close 58 = .ok (.iload_n 1, 1) := by decide +kernel
theorem dX11_close_59 : decode cX11_close 59 = .ok (.aload_n 0, 1) := by decide +kernel
theorem dX11_close_60 : decode cX11_close 60 = .ok (.getfield 101, 3) := by decide +kernel
theorem dX11_close_63 : decode cX11_close 63 = .ok (.iadd, 1) := by decide +kernel
theorem dX11_close_64 : decode cX11_close 64 = .ok (.if_icmp .lt 10, 3) := by decide +kernel
theorem dX11_close_67 : decode cX11_close 67 = .ok (.iload_n 2, 1) := by decide +kernel
theorem dX11_close_68 : decode cX11_close 68 = .ok (.ldc 104, 2) := by decide +kernel
theorem dX11_close_70 : decode cX11_close 70 = .ok (.isub, 1) := by decide +kernel
theorem dX11_close_71 : decode cX11_close 71 = .ok (.goto 4, 3) := by decide +kernel
theorem dX11_close_74 : decode cX11_close 74 = .ok (.iload_n 2, 1) := by decide +kernel
theorem dX11_close_75 : decode cX11_close 75 = .ok (.invokevirtual 105, 3) := by decide +kernel
theorem dX11_close_78 : decode cX11_close 78 = .ok (.aload_n 0, 1) := by decide +kernel
theorem dX11_close_79 : decode cX11_close 79 = .ok (.invokevirtual 123, 3) := by decide +kernel
theorem dX11_close_82 : decode cX11_close 82 = .ok (.aload_n 0, 1) := by decide +kernel
theorem dX11_close_83 : decode cX11_close 83 = .ok (.invokevirtual 123, 3) := by decide +kernel
theorem dX11_close_86 : decode cX11_close 86 = .ok (.goto 29, 3) := by decide +kernel
theorem dX11_close_89 : decode cX11_close 89 = .ok (.bipush 12, 2) := by decide +kernel
theorem dX11_close_91 : decode cX11_close 91 = .ok (.aload_n 0, 1) := by decide +kernel
theorem dX11_close_92 : decode cX11_close 92 = .ok (.getfield 84, 3) := by decide +kernel
theorem dX11_close_95 : decode cX11_close 95 = .ok (.isub, 1) := by decide +kernel
theorem dX11_close_96 : decode cX11_close 96 = .ok (.istore_n 1, 1) := by decide +kernel
theorem dX11_close_97 : decode cX11_close 97 = .ok (.iload_n 1, 1) := by decide +kernel
theorem dX11_close_98 : decode cX11_close 98 = .ok (.ifCond .le 17, 3) := by decide +kernel
theorem dX11_close_101 : decode cX11_close 101 = .ok (.aload_n 0, 1) := by decide +kernel
theorem dX11_close_102 : decode cX11_close 102 = .ok (.invokevirtual 123, 3) := by decide +kernel
theorem dX11_close_105 : decode cX11_close 105 = .ok (.iload_n 1, 1) := by decide +kernel
theorem dX11_close_106 : decode cX11_close 106 = .ok (.aload_n 0, 1) := by decide +kernel
theorem dX11_close_107 : decode cX11_close 107 = .ok (.getfield 84, 3) := by decide +kernel
theorem dX11_close_110 : decode cX11_close 110 = .ok (.isub, 1) := by decide +kernel
theorem dX11_close_111 : decode cX11_close 111 = .ok (.istore_n 1, 1) := by decide +kernel
theorem dX11_close_112 : decode cX11_close 112 = .ok (.goto (-15), 3) := by decide +kernel
theorem dX11_close_115 : decode cX11_close 115 = .ok (.aload_n 0, 1) := by decide +kernel
theorem dX11_close_116 : decode cX11_close 116 = .ok (.invokevirtual 94, 3) := by decide +kernel
theorem dX11_close_119 : decode cX11_close 119 = .ok (.ifCond .eq 13, 3) := by decide +kernel
theorem dX11_close_122 : decode cX11_close 122 = .ok (.aload_n 0, 1) := by decide +kernel
theorem dX11_close_123 : decode cX11_close 123 = .ok (.dup, 1) := by decide +kernel
theorem dX11_close_124 : decode cX11_close 124 = .ok (.getfield 74, 3) := by decide +kernel
theorem dX11_close_127 : decode cX11_close 127 = .ok (.iconst 1, 1) := by decide +kernel
theorem dX11_close_128 : decode cX11_close 128 = .ok (.isub, 1) := by decide +kernel
theorem dX11_close_129 : decode cX11_close 129 = .ok (.putfield 74, 3) := by decide +kernel
theorem dX11_close_132 : decode cX11_close 132 = .ok (.return_, 1) := by decide +kernel
theorem dX11_byteAt_0 : decode cX11_byteAt 0 = .ok (.iload_n 1, 1) := by decide +kernel
theorem dX11_byteAt_1 : decode cX11_byteAt 1 = .ok (.aload_n 0, 1) := by decide +kernel
theorem dX11_byteAt_2 : decode cX11_byteAt 2 = .ok (.getfield 126, 3) := by decide +kernel
theorem dX11_byteAt_5 : decode cX11_byteAt 5 = .ok (.if_icmp .ge 17, 3) := by decide +kernel
theorem dX11_byteAt_8 : decode cX11_byteAt 8 = .ok (.aload_n 0, 1) := by decide +kernel
theorem dX11_byteAt_9 : decode cX11_byteAt 9 = .ok (.getfield 68, 3) := by decide +kernel
theorem dX11_byteAt_12 : decode cX11_byteAt 12 = .ok (.aload_n 0, 1) := by decide +kernel
theorem dX11_byteAt_13 : decode cX11_byteAt 13 = .ok (.getfield 129, 3) := by decide +kernel
theorem dX11_byteAt_16 : decode cX11_byteAt 16 = .ok (.iload_n 1, 1) := by decide +kernel
theorem dX11_byteAt_17 : decode cX11_byteAt 17 = .ok (.iadd, 1) := by decide +kernel
theorem dX11_byteAt_18 : decode cX11_byteAt 18 = .ok (.iaload, 1) := by decide +kernel
theorem dX11_byteAt_19 : decode cX11_byteAt 19 = .ok (.goto 6, 3) := by decide +kernel
theorem dX11_byteAt_22 : decode cX11_byteAt 22 = .ok (.sipush 255, 3) := by decide +kernel
theorem dX11_byteAt_25 : decode cX11_byteAt 25 = .ok (.ireturn, 1) := by decide +kernel
set_option maxRecDepth 20000 in
theorem ggX11_openRead_X11_byteAt : GoodIn wsX11_openRead wsX11_byteAt := goodIn_r _ [15, 2, 16, 1, 22, 23, 24, 25, 26, 27, 28, 29, 30, 31, 32, 33, 34, 35, 36, 37, 38, 39, 40, 41, 42, 43, 44, 45, 46, 47, 48, 49, 50, 51, 52, 53, 54, 55, 56, 57, 58, 59, 60, 61, 62, 63] (by decide +kernel) (by decide +kernel)
set_option maxRecDepth 20000 in
theorem gX11_openRead_X11_byteAt : GoodIn wsX11_openRead (wsV RX11 138 RX11 yX11_byteAt wsX11_byteAt) := goodIn_app (goodIn_of _ (by decide +kernel)) ggX11_openRead_X11_byteAt
set_option maxRecDepth 20000 in
theorem ggX11_openRead_X11_comesIn : GoodIn wsX11_openRead wsX11_comesIn := goodIn_r _ [20, 5, 4, 3, 21, 11, 12, 13, 14, 15, 2, 16, 1, 22, 23, 24, 25, 26, 27, 28, 29, 30, 31, 32, 33, 34, 35, 36, 37, 38, 39, 40, 41, 42, 43, 44, 45, 46, 47, 48, 49, 50, 51, 52, 53, 54, 55, 56, 57, 58, 59, 60, 61, 62, 63] (by decide +kernel) (by decide +kernel)
set_option maxRecDepth 20000 in
theorem gX11_openRead_X11_comesIn : GoodIn wsX11_openRead (wsV RX11 142 RX11 yX11_comesIn wsX11_comesIn) := goodIn_app (goodIn_of _ (by decide +kernel)) ggX11_openRead_X11_comesIn
theorem dX11_openRead_0 : decode cX11_openRead 0 = .ok (.aload_n 0, 1) := by decide +kernel
theorem dX11_openRead_1 : decode cX11_openRead 1 = .ok (.iload_n 1, 1) := by decide +kernel
theorem dX11_openRead_2 : decode cX11_openRead 2 = .ok (.putfield 129, 3) := by decide +kernel
