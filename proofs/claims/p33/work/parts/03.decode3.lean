theorem dL_war_612 : decode cL_war 612 = .ok (.iconst 0, 1) := by decide +kernel
theorem dL_war_613 : decode cL_war 613 = .ok (.istore 8, 2) := by decide +kernel
theorem dL_war_615 : decode cL_war 615 = .ok (.iload 8, 2) := by decide +kernel
theorem dL_war_617 : decode cL_war 617 = .ok (.iconst 2, 1) := by decide +kernel
theorem dL_war_618 : decode cL_war 618 = .ok (.if_icmp .ge 29, 3) := by decide +kernel
theorem dL_war_621 : decode cL_war 621 = .ok (.aload_n 3, 1) := by decide +kernel
theorem dL_war_622 : decode cL_war 622 = .ok (.getfield 165, 3) := by decide +kernel
theorem dL_war_625 : decode cL_war 625 = .ok (.iload 8, 2) := by decide +kernel
theorem dL_war_627 : decode cL_war 627 = .ok (.iload 4, 2) := by decide +kernel
theorem dL_war_629 : decode cL_war 629 = .ok (.bipush 8, 2) := by decide +kernel
theorem dL_war_631 : decode cL_war 631 = .ok (.iload 8, 2) := by decide +kernel
theorem dL_war_633 : decode cL_war 633 = .ok (.iadd, 1) := by decide +kernel
theorem dL_war_634 : decode cL_war 634 = .ok (.ishr, 1) := by decide +kernel
theorem dL_war_635 : decode cL_war 635 = .ok (.iconst 0, 1) := by decide +kernel
theorem dL_war_636 : decode cL_war 636 = .ok (.iconst 4, 1) := by decide +kernel
theorem dL_war_637 : decode cL_war 637 = .ok (.invokestatic 43, 3) := by decide +kernel
theorem dL_war_640 : decode cL_war 640 = .ok (.iastore, 1) := by decide +kernel
theorem dL_war_641 : decode cL_war 641 = .ok (.iinc 8 1, 3) := by decide +kernel
theorem dL_war_644 : decode cL_war 644 = .ok (.goto (-29), 3) := by decide +kernel
theorem dL_war_647 : decode cL_war 647 = .ok (.aload_n 0, 1) := by decide +kernel
theorem dL_war_648 : decode cL_war 648 = .ok (.iconst 0, 1) := by decide +kernel
theorem dL_war_649 : decode cL_war 649 = .ok (.iconst 0, 1) := by decide +kernel
theorem dL_war_650 : decode cL_war 650 = .ok (.aload_n 3, 1) := by decide +kernel
theorem dL_war_651 : decode cL_war 651 = .ok (.getfield 152, 3) := by decide +kernel
theorem dL_war_654 : decode cL_war 654 = .ok (.invokevirtual 148, 3) := by decide +kernel
theorem dL_war_657 : decode cL_war 657 = .ok (.ifCond .eq 59, 3) := by decide +kernel
theorem dL_war_660 : decode cL_war 660 = .ok (.aload_n 0, 1) := by decide +kernel
theorem dL_war_661 : decode cL_war 661 = .ok (.iconst 1, 1) := by decide +kernel
theorem dL_war_662 : decode cL_war 662 = .ok (.iconst 0, 1) := by decide +kernel
theorem dL_war_663 : decode cL_war 663 = .ok (.aload_n 3, 1) := by decide +kernel
theorem dL_war_664 : decode cL_war 664 = .ok (.getfield 155, 3) := by decide +kernel
theorem dL_war_667 : decode cL_war 667 = .ok (.invokevirtual 148, 3) := by decide +kernel
theorem dL_war_670 : decode cL_war 670 = .ok (.ifCond .eq 46, 3) := by decide +kernel
theorem dL_war_673 : decode cL_war 673 = .ok (.aload_n 0, 1) := by decide +kernel
theorem dL_war_674 : decode cL_war 674 = .ok (.iconst 2, 1) := by decide +kernel
theorem dL_war_675 : decode cL_war 675 = .ok (.iconst 0, 1) := by decide +kernel
theorem dL_war_676 : decode cL_war 676 = .ok (.aload_n 3, 1) := by decide +kernel
theorem dL_war_677 : decode cL_war 677 = .ok (.getfield 158, 3) := by decide +kernel
theorem dL_war_680 : decode cL_war 680 = .ok (.invokevirtual 148, 3) := by decide +kernel
theorem dL_war_683 : decode cL_war 683 = .ok (.ifCond .eq 33, 3) := by decide +kernel
theorem dL_war_686 : decode cL_war 686 = .ok (.aload_n 0, 1) := by decide +kernel
theorem dL_war_687 : decode cL_war 687 = .ok (.iconst 3, 1) := by decide +kernel
theorem dL_war_688 : decode cL_war 688 = .ok (.iconst 0, 1) := by decide +kernel
theorem dL_war_689 : decode cL_war 689 = .ok (.aload_n 3, 1) := by decide +kernel
theorem dL_war_690 : decode cL_war 690 = .ok (.getfield 165, 3) := by decide +kernel
theorem dL_war_693 : decode cL_war 693 = .ok (.iconst 0, 1) := by decide +kernel
theorem dL_war_694 : decode cL_war 694 = .ok (.iaload, 1) := by decide +kernel
theorem dL_war_695 : decode cL_war 695 = .ok (.invokevirtual 148, 3) := by decide +kernel
theorem dL_war_698 : decode cL_war 698 = .ok (.ifCond .eq 18, 3) := by decide +kernel
theorem dL_war_701 : decode cL_war 701 = .ok (.aload_n 0, 1) := by decide +kernel
theorem dL_war_702 : decode cL_war 702 = .ok (.iconst 3, 1) := by decide +kernel
theorem dL_war_703 : decode cL_war 703 = .ok (.iconst 1, 1) := by decide +kernel
theorem dL_war_704 : decode cL_war 704 = .ok (.aload_n 3, 1) := by decide +kernel
theorem dL_war_705 : decode cL_war 705 = .ok (.getfield 165, 3) := by decide +kernel
theorem dL_war_708 : decode cL_war 708 = .ok (.iconst 1, 1) := by decide +kernel
theorem dL_war_709 : decode cL_war 709 = .ok (.iaload, 1) := by decide +kernel
theorem dL_war_710 : decode cL_war 710 = .ok (.invokevirtual 148, 3) := by decide +kernel
theorem dL_war_713 : decode cL_war 713 = .ok (.ifCond .ne 5, 3) := by decide +kernel
theorem dL_war_716 : decode cL_war 716 = .ok (.aconst_null, 1) := by decide +kernel
theorem dL_war_717 : decode cL_war 717 = .ok (.areturn, 1) := by decide +kernel
theorem dL_war_718 : decode cL_war 718 = .ok (.iconst 0, 1) := by decide +kernel
theorem dL_war_719 : decode cL_war 719 = .ok (.istore 8, 2) := by decide +kernel
theorem dL_war_721 : decode cL_war 721 = .ok (.iload 8, 2) := by decide +kernel
theorem dL_war_723 : decode cL_war 723 = .ok (.bipush 16, 2) := by decide +kernel
theorem dL_war_725 : decode cL_war 725 = .ok (.if_icmp .ge 35, 3) := by decide +kernel
theorem dL_war_728 : decode cL_war 728 = .ok (.aload_n 3, 1) := by decide +kernel
theorem dL_war_729 : decode cL_war 729 = .ok (.getfield 162, 3) := by decide +kernel
theorem dL_war_732 : decode cL_war 732 = .ok (.iload 8, 2) := by decide +kernel
theorem dL_war_734 : decode cL_war 734 = .ok (.ishr, 1) := by decide +kernel
theorem dL_war_735 : decode cL_war 735 = .ok (.iconst 1, 1) := by decide +kernel
theorem dL_war_736 : decode cL_war 736 = .ok (.iand, 1) := by decide +kernel
theorem dL_war_737 : decode cL_war 737 = .ok (.iconst 1, 1) := by decide +kernel
theorem dL_war_738 : decode cL_war 738 = .ok (.if_icmp .ne 16, 3) := by decide +kernel
theorem dL_war_741 : decode cL_war 741 = .ok (.aload_n 0, 1) := by decide +kernel
theorem dL_war_742 : decode cL_war 742 = .ok (.iconst 4, 1) := by decide +kernel
theorem dL_war_743 : decode cL_war 743 = .ok (.iload 8, 2) := by decide +kernel
theorem dL_war_745 : decode cL_war 745 = .ok (.iconst 1, 1) := by decide +kernel
theorem dL_war_746 : decode cL_war 746 = .ok (.invokevirtual 148, 3) := by decide +kernel
theorem dL_war_749 : decode cL_war 749 = .ok (.ifCond .ne 5, 3) := by decide +kernel
theorem dL_war_752 : decode cL_war 752 = .ok (.aconst_null, 1) := by decide +kernel
theorem dL_war_753 : decode cL_war 753 = .ok (.areturn, 1) := by decide +kernel
theorem dL_war_754 : decode cL_war 754 = .ok (.iinc 8 1, 3) := by decide +kernel
theorem dL_war_757 : decode cL_war 757 = .ok (.goto (-36), 3) := by decide +kernel
theorem dL_war_760 : decode cL_war 760 = .ok (.aload_n 0, 1) := by decide +kernel
theorem dL_war_761 : decode cL_war 761 = .ok (.aload_n 3, 1) := by decide +kernel
theorem dL_war_762 : decode cL_war 762 = .ok (.aload_n 1, 1) := by decide +kernel
theorem dL_war_763 : decode cL_war 763 = .ok (.iload_n 2, 1) := by decide +kernel
theorem dL_war_764 : decode cL_war 764 = .ok (.bipush 6, 2) := by decide +kernel
theorem dL_war_766 : decode cL_war 766 = .ok (.iadd, 1) := by decide +kernel
theorem dL_war_767 : decode cL_war 767 = .ok (.invokestatic 111, 3) := by decide +kernel
theorem dL_war_770 : decode cL_war 770 = .ok (.invokestatic 168, 3) := by decide +kernel
theorem dL_war_773 : decode cL_war 773 = .ok (.ifCond .ne 5, 3) := by decide +kernel
theorem dL_war_776 : decode cL_war 776 = .ok (.aconst_null, 1) := by decide +kernel
theorem dL_war_777 : decode cL_war 777 = .ok (.areturn, 1) := by decide +kernel
theorem dL_war_778 : decode cL_war 778 = .ok (.aload_n 3, 1) := by decide +kernel
theorem dL_war_779 : decode cL_war 779 = .ok (.aload_n 1, 1) := by decide +kernel
theorem dL_war_780 : decode cL_war 780 = .ok (.iload_n 2, 1) := by decide +kernel
theorem dL_war_781 : decode cL_war 781 = .ok (.bipush 7, 2) := by decide +kernel
theorem dL_war_783 : decode cL_war 783 = .ok (.iadd, 1) := by decide +kernel
theorem dL_war_784 : decode cL_war 784 = .ok (.invokestatic 111, 3) := by decide +kernel
theorem dL_war_787 : decode cL_war 787 = .ok (.putfield 172, 3) := by decide +kernel
theorem dL_war_790 : decode cL_war 790 = .ok (.aload_n 0, 1) := by decide +kernel
theorem dL_war_791 : decode cL_war 791 = .ok (.aload_n 3, 1) := by decide +kernel
theorem dL_war_792 : decode cL_war 792 = .ok (.getfield 172, 3) := by decide +kernel
theorem dL_war_795 : decode cL_war 795 = .ok (.invokevirtual 175, 3) := by decide +kernel
theorem dL_war_798 : decode cL_war 798 = .ok (.pop, 1) := by decide +kernel
theorem dL_war_799 : decode cL_war 799 = .ok (.aload_n 3, 1) := by decide +kernel
theorem dL_war_800 : decode cL_war 800 = .ok (.areturn, 1) := by decide +kernel
theorem dX12_call_0 : decode cX12_call 0 = .ok (.aload_n 0, 1) := by decide +kernel
theorem dX12_call_1 : decode cX12_call 1 = .ok (.getfield 30, 3) := by decide +kernel
theorem dX12_call_4 : decode cX12_call 4 = .ok (.iload_n 1, 1) := by decide +kernel
theorem dX12_call_5 : decode cX12_call 5 = .ok (.aaload, 1) := by decide +kernel
theorem dX12_call_6 : decode cX12_call 6 = .ok (.iconst 1, 1) := by decide +kernel
theorem dX12_call_7 : decode cX12_call 7 = .ok (.iaload, 1) := by decide +kernel
theorem dX12_call_8 : decode cX12_call 8 = .ok (.aload_n 0, 1) := by decide +kernel
theorem dX12_call_9 : decode cX12_call 9 = .ok (.getfield 86, 3) := by decide +kernel
theorem dX12_call_12 : decode cX12_call 12 = .ok (.if_icmp .ge 7, 3) := by decide +kernel
theorem dX12_call_15 : decode cX12_call 15 = .ok (.iconst 0, 1) := by decide +kernel
theorem dX12_call_16 : decode cX12_call 16 = .ok (.goto 9, 3) := by decide +kernel
theorem dX12_call_19 : decode cX12_call 19 = .ok (.aload_n 0, 1) := by decide +kernel
theorem dX12_call_20 : decode cX12_call 20 = .ok (.iconst 0, 1) := by decide +kernel
theorem dX12_call_21 : decode cX12_call 21 = .ok (.iload_n 1, 1) := by decide +kernel
theorem dX12_call_22 : decode cX12_call 22 = .ok (.invokevirtual 89, 3) := by decide +kernel
theorem dX12_call_25 : decode cX12_call 25 = .ok (.ireturn, 1) := by decide +kernel
theorem dX12_copy_0 : decode cX12_copy 0 = .ok (.new 8, 3) := by decide +kernel
theorem dX12_copy_3 : decode cX12_copy 3 = .ok (.dup, 1) := by decide +kernel
theorem dX12_copy_4 : decode cX12_copy 4 = .ok (.invokespecial 40, 3) := by decide +kernel
theorem dX12_copy_7 : decode cX12_copy 7 = .ok (.astore_n 1, 1) := by decide +kernel
theorem dX12_copy_8 : decode cX12_copy 8 = .ok (.aload_n 1, 1) := by decide +kernel
theorem dX12_copy_9 : decode cX12_copy 9 = .ok (.aload_n 0, 1) := by decide +kernel
theorem dX12_copy_10 : decode cX12_copy 10 = .ok (.getfield 41, 3) := by decide +kernel
theorem dX12_copy_13 : decode cX12_copy 13 = .ok (.putfield 41, 3) := by decide +kernel
theorem dX12_copy_16 : decode cX12_copy 16 = .ok (.aload_n 1, 1) := by decide +kernel
theorem dX12_copy_17 : decode cX12_copy 17 = .ok (.aload_n 0, 1) := by decide +kernel
theorem dX12_copy_18 : decode cX12_copy 18 = .ok (.getfield 44, 3) := by decide +kernel
theorem dX12_copy_21 : decode cX12_copy 21 = .ok (.putfield 44, 3) := by decide +kernel
theorem dX12_copy_24 : decode cX12_copy 24 = .ok (.aload_n 1, 1) := by decide +kernel
theorem dX12_copy_25 : decode cX12_copy 25 = .ok (.aload_n 0, 1) := by decide +kernel
theorem dX12_copy_26 : decode cX12_copy 26 = .ok (.getfield 7, 3) := by decide +kernel
theorem dX12_copy_29 : decode cX12_copy 29 = .ok (.putfield 7, 3) := by decide +kernel
theorem dX12_copy_32 : decode cX12_copy 32 = .ok (.aload_n 1, 1) := by decide +kernel
theorem dX12_copy_33 : decode cX12_copy 33 = .ok (.aload_n 0, 1) := by decide +kernel
theorem dX12_copy_34 : decode cX12_copy 34 = .ok (.getfield 13, 3) := by decide +kernel
theorem dX12_copy_37 : decode cX12_copy 37 = .ok (.putfield 13, 3) := by decide +kernel
theorem dX12_copy_40 : decode cX12_copy 40 = .ok (.aload_n 1, 1) := by decide +kernel
theorem dX12_copy_41 : decode cX12_copy 41 = .ok (.aload_n 0, 1) := by decide +kernel
theorem dX12_copy_42 : decode cX12_copy 42 = .ok (.getfield 47, 3) := by decide +kernel
theorem dX12_copy_45 : decode cX12_copy 45 = .ok (.putfield 47, 3) := by decide +kernel
theorem dX12_copy_48 : decode cX12_copy 48 = .ok (.aload_n 1, 1) := by decide +kernel
theorem dX12_copy_49 : decode cX12_copy 49 = .ok (.aload_n 0, 1) := by decide +kernel
theorem dX12_copy_50 : decode cX12_copy 50 = .ok (.getfield 16, 3) := by decide +kernel
theorem dX12_copy_53 : decode cX12_copy 53 = .ok (.putfield 16, 3) := by decide +kernel
theorem dX12_copy_56 : decode cX12_copy 56 = .ok (.aload_n 1, 1) := by decide +kernel
theorem dX12_copy_57 : decode cX12_copy 57 = .ok (.aload_n 0, 1) := by decide +kernel
theorem dX12_copy_58 : decode cX12_copy 58 = .ok (.getfield 50, 3) := by decide +kernel
theorem dX12_copy_61 : decode cX12_copy 61 = .ok (.putfield 50, 3) := by decide +kernel
theorem dX12_copy_64 : decode cX12_copy 64 = .ok (.aload_n 1, 1) := by decide +kernel
theorem dX12_copy_65 : decode cX12_copy 65 = .ok (.aload_n 0, 1) := by decide +kernel
theorem dX12_copy_66 : decode cX12_copy 66 = .ok (.getfield 53, 3) := by decide +kernel
theorem dX12_copy_69 : decode cX12_copy 69 = .ok (.putfield 53, 3) := by decide +kernel
theorem dX12_copy_72 : decode cX12_copy 72 = .ok (.aload_n 1, 1) := by decide +kernel
theorem dX12_copy_73 : decode cX12_copy 73 = .ok (.aload_n 0, 1) := by decide +kernel
theorem dX12_copy_74 : decode cX12_copy 74 = .ok (.getfield 56, 3) := by decide +kernel
theorem dX12_copy_77 : decode cX12_copy 77 = .ok (.putfield 56, 3) := by decide +kernel
theorem dX12_copy_80 : decode cX12_copy 80 = .ok (.aload_n 1, 1) := by decide +kernel
theorem dX12_copy_81 : decode cX12_copy 81 = .ok (.aload_n 0, 1) := by decide +kernel
theorem dX12_copy_82 : decode cX12_copy 82 = .ok (.getfield 59, 3) := by decide +kernel
theorem dX12_copy_85 : decode cX12_copy 85 = .ok (.putfield 59, 3) := by decide +kernel
theorem dX12_copy_88 : decode cX12_copy 88 = .ok (.aload_n 1, 1) := by decide +kernel
theorem dX12_copy_89 : decode cX12_copy 89 = .ok (.aload_n 0, 1) := by decide +kernel
theorem dX12_copy_90 : decode cX12_copy 90 = .ok (.getfield 62, 3) := by decide +kernel
theorem dX12_copy_93 : decode cX12_copy 93 = .ok (.putfield 62, 3) := by decide +kernel
theorem dX12_copy_96 : decode cX12_copy 96 = .ok (.aload_n 1, 1) := by decide +kernel
theorem dX12_copy_97 : decode cX12_copy 97 = .ok (.aload_n 0, 1) := by decide +kernel
theorem dX12_copy_98 : decode cX12_copy 98 = .ok (.getfield 19, 3) := by decide +kernel
theorem dX12_copy_101 : decode cX12_copy 101 = .ok (.invokevirtual 65, 3) := by decide +kernel
theorem dX12_copy_104 : decode cX12_copy 104 = .ok (.checkcast 29, 3) := by decide +kernel
theorem dX12_copy_107 : decode cX12_copy 107 = .ok (.putfield 19, 3) := by decide +kernel
theorem dX12_copy_110 : decode cX12_copy 110 = .ok (.aload_n 1, 1) := by decide +kernel
theorem dX12_copy_111 : decode cX12_copy 111 = .ok (.aload_n 0, 1) := by decide +kernel
theorem dX12_copy_112 : decode cX12_copy 112 = .ok (.getfield 23, 3) := by decide +kernel
theorem dX12_copy_115 : decode cX12_copy 115 = .ok (.putfield 23, 3) := by decide +kernel
theorem dX12_copy_118 : decode cX12_copy 118 = .ok (.aload_n 1, 1) := by decide +kernel
theorem dX12_copy_119 : decode cX12_copy 119 = .ok (.aload_n 0, 1) := by decide +kernel
theorem dX12_copy_120 : decode cX12_copy 120 = .ok (.getfield 26, 3) := by decide +kernel
theorem dX12_copy_123 : decode cX12_copy 123 = .ok (.putfield 26, 3) := by decide +kernel
theorem dX12_copy_126 : decode cX12_copy 126 = .ok (.aload_n 1, 1) := by decide +kernel
theorem dX12_copy_127 : decode cX12_copy 127 = .ok (.aload_n 0, 1) := by decide +kernel
theorem dX12_copy_128 : decode cX12_copy 128 = .ok (.getfield 37, 3) := by decide +kernel
theorem dX12_copy_131 : decode cX12_copy 131 = .ok (.putfield 37, 3) := by decide +kernel
theorem dX12_copy_134 : decode cX12_copy 134 = .ok (.aload_n 1, 1) := by decide +kernel
theorem dX12_copy_135 : decode cX12_copy 135 = .ok (.aload_n 0, 1) := by decide +kernel
theorem dX12_copy_136 : decode cX12_copy 136 = .ok (.getfield 69, 3) := by decide +kernel
theorem dX12_copy_139 : decode cX12_copy 139 = .ok (.putfield 69, 3) := by decide +kernel
theorem dX12_copy_142 : decode cX12_copy 142 = .ok (.iconst 0, 1) := by decide +kernel
theorem dX12_copy_143 : decode cX12_copy 143 = .ok (.istore_n 2, 1) := by decide +kernel
theorem dX12_copy_144 : decode cX12_copy 144 = .ok (.iload_n 2, 1) := by decide +kernel
theorem dX12_copy_145 : decode cX12_copy 145 = .ok (.aload_n 0, 1) := by decide +kernel
theorem dX12_copy_146 : decode cX12_copy 146 = .ok (.getfield 50, 3) := by decide +kernel
theorem dX12_copy_149 : decode cX12_copy 149 = .ok (.if_icmp .ge 27, 3) := by decide +kernel
theorem dX12_copy_152 : decode cX12_copy 152 = .ok (.aload_n 1, 1) := by decide +kernel
theorem dX12_copy_153 : decode cX12_copy 153 = .ok (.getfield 30, 3) := by decide +kernel
theorem dX12_copy_156 : decode cX12_copy 156 = .ok (.iload_n 2, 1) := by decide +kernel
theorem dX12_copy_157 : decode cX12_copy 157 = .ok (.aload_n 0, 1) := by decide +kernel
theorem dX12_copy_158 : decode cX12_copy 158 = .ok (.getfield 30, 3) := by decide +kernel
theorem dX12_copy_161 : decode cX12_copy 161 = .ok (.iload_n 2, 1) := by decide +kernel
theorem dX12_copy_162 : decode cX12_copy 162 = .ok (.aaload, 1) := by decide +kernel
theorem dX12_copy_163 : decode cX12_copy 163 = .ok (.invokevirtual 65, 3) := by decide +kernel
theorem dX12_copy_166 : decode cX12_copy 166 = .ok (.checkcast 29, 3) := by decide +kernel
theorem dX12_copy_169 : decode cX12_copy 169 = .ok (.aastore, 1) := by decide +kernel
theorem dX12_copy_170 : decode cX12_copy 170 = .ok (.iinc 2 1, 3) := by decide +kernel
theorem dX12_copy_173 : decode cX12_copy 173 = .ok (.goto (-29), 3) := by decide +kernel
theorem dX12_copy_176 : decode cX12_copy 176 = .ok (.iconst 0, 1) := by decide +kernel
theorem dX12_copy_177 : decode cX12_copy 177 = .ok (.istore_n 2, 1) := by decide +kernel
theorem dX12_copy_178 : decode cX12_copy 178 = .ok (.iload_n 2, 1) := by decide +kernel
theorem dX12_copy_179 : decode cX12_copy 179 = .ok (.aload_n 0, 1) := by decide +kernel
theorem dX12_copy_180 : decode cX12_copy 180 = .ok (.getfield 53, 3) := by decide +kernel
theorem dX12_copy_183 : decode cX12_copy 183 = .ok (.if_icmp .ge 21, 3) := by decide +kernel
theorem dX12_copy_186 : decode cX12_copy 186 = .ok (.aload_n 1, 1) := by decide +kernel
theorem dX12_copy_187 : decode cX12_copy 187 = .ok (.getfield 34, 3) := by decide +kernel
theorem dX12_copy_190 : decode cX12_copy 190 = .ok (.iload_n 2, 1) := by decide +kernel
theorem dX12_copy_191 : decode cX12_copy 191 = .ok (.aload_n 0, 1) := by decide +kernel
theorem dX12_copy_192 : decode cX12_copy 192 = .ok (.getfield 34, 3) := by decide +kernel
theorem dX12_copy_195 : decode cX12_copy 195 = .ok (.iload_n 2, 1) := by decide +kernel
theorem dX12_copy_196 : decode cX12_copy 196 = .ok (.aaload, 1) := by decide +kernel
theorem dX12_copy_197 : decode cX12_copy 197 = .ok (.aastore, 1) := by decide +kernel
theorem dX12_copy_198 : decode cX12_copy 198 = .ok (.iinc 2 1, 3) := by decide +kernel
theorem dX12_copy_201 : decode cX12_copy 201 = .ok (.goto (-23), 3) := by decide +kernel
theorem dX12_copy_204 : decode cX12_copy 204 = .ok (.aload_n 1, 1) := by decide +kernel
theorem dX12_copy_205 : decode cX12_copy 205 = .ok (.areturn, 1) := by decide +kernel
theorem dX12_draw_0 : decode cX12_draw 0 = .ok (.aload_n 0, 1) := by decide +kernel
theorem dX12_draw_1 : decode cX12_draw 1 = .ok (.ldc 72, 2) := by decide +kernel
theorem dX12_draw_3 : decode cX12_draw 3 = .ok (.aload_n 0, 1) := by decide +kernel
theorem dX12_draw_4 : decode cX12_draw 4 = .ok (.getfield 41, 3) := by decide +kernel
theorem dX12_draw_7 : decode cX12_draw 7 = .ok (.imul, 1) := by decide +kernel
theorem dX12_draw_8 : decode cX12_draw 8 = .ok (.ldc 73, 2) := by decide +kernel
theorem dX12_draw_10 : decode cX12_draw 10 = .ok (.iadd, 1) := by decide +kernel
theorem dX12_draw_11 : decode cX12_draw 11 = .ok (.putfield 41, 3) := by decide +kernel
theorem dX12_draw_14 : decode cX12_draw 14 = .ok (.aload_n 0, 1) := by decide +kernel
theorem dX12_draw_15 : decode cX12_draw 15 = .ok (.getfield 41, 3) := by decide +kernel
theorem dX12_draw_18 : decode cX12_draw 18 = .ok (.bipush 8, 2) := by decide +kernel
theorem dX12_draw_20 : decode cX12_draw 20 = .ok (.iushr, 1) := by decide +kernel
theorem dX12_draw_21 : decode cX12_draw 21 = .ok (.iload_n 1, 1) := by decide +kernel
theorem dX12_draw_22 : decode cX12_draw 22 = .ok (.irem, 1) := by decide +kernel
theorem dX12_draw_23 : decode cX12_draw 23 = .ok (.ireturn, 1) := by decide +kernel
theorem dX12_field_0 : decode cX12_field 0 = .ok (.iconst 0, 1) := by decide +kernel
theorem dX12_field_1 : decode cX12_field 1 = .ok (.istore_n 2, 1) := by decide +kernel
theorem dX12_field_2 : decode cX12_field 2 = .ok (.iconst 0, 1) := by decide +kernel
theorem dX12_field_3 : decode cX12_field 3 = .ok (.istore_n 3, 1) := by decide +kernel
theorem dX12_field_4 : decode cX12_field 4 = .ok (.iload_n 3, 1) := by decide +kernel
theorem dX12_field_5 : decode cX12_field 5 = .ok (.aload_n 0, 1) := by decide +kernel
theorem dX12_field_6 : decode cX12_field 6 = .ok (.getfield 50, 3) := by decide +kernel
theorem dX12_field_9 : decode cX12_field 9 = .ok (.if_icmp .ge 22, 3) := by decide +kernel
theorem dX12_field_12 : decode cX12_field 12 = .ok (.aload_n 0, 1) := by decide +kernel
theorem dX12_field_13 : decode cX12_field 13 = .ok (.iload_n 3, 1) := by decide +kernel
theorem dX12_field_14 : decode cX12_field 14 = .ok (.iload_n 1, 1) := by decide +kernel
theorem dX12_field_15 : decode cX12_field 15 = .ok (.iconst 1, 1) := by decide +kernel
theorem dX12_field_16 : decode cX12_field 16 = .ok (.invokevirtual 93, 3) := by decide +kernel
theorem dX12_field_19 : decode cX12_field 19 = .ok (.ifCond .eq 6, 3) := by decide +kernel
theorem dX12_field_22 : decode cX12_field 22 = .ok (.iinc 2 1, 3) := by decide +kernel
theorem dX12_field_25 : decode cX12_field 25 = .ok (.iinc 3 1, 3) := by decide +kernel
theorem dX12_field_28 : decode cX12_field 28 = .ok (.goto (-24), 3) := by decide +kernel
theorem dX12_field_31 : decode cX12_field 31 = .ok (.iload_n 2, 1) := by decide +kernel
theorem dX12_field_32 : decode cX12_field 32 = .ok (.ireturn, 1) := by decide +kernel
theorem dX12_is_0 : decode cX12_is 0 = .ok (.aload_n 0, 1) := by decide +kernel
theorem dX12_is_1 : decode cX12_is 1 = .ok (.getfield 30, 3) := by decide +kernel
theorem dX12_is_4 : decode cX12_is 4 = .ok (.iload_n 1, 1) := by decide +kernel
theorem dX12_is_5 : decode cX12_is 5 = .ok (.aaload, 1) := by decide +kernel
theorem dX12_is_6 : decode cX12_is 6 = .ok (.iconst 0, 1) := by decide +kernel
theorem dX12_is_7 : decode cX12_is 7 = .ok (.iaload, 1) := by decide +kernel
theorem dX12_is_8 : decode cX12_is 8 = .ok (.iload_n 2, 1) := by decide +kernel
theorem dX12_is_9 : decode cX12_is 9 = .ok (.if_icmp .ne 20, 3) := by decide +kernel
theorem dX12_is_12 : decode cX12_is 12 = .ok (.aload_n 0, 1) := by decide +kernel
theorem dX12_is_13 : decode cX12_is 13 = .ok (.getfield 30, 3) := by decide +kernel
theorem dX12_is_16 : decode cX12_is 16 = .ok (.iload_n 1, 1) := by decide +kernel
theorem dX12_is_17 : decode cX12_is 17 = .ok (.aaload, 1) := by decide +kernel
theorem dX12_is_18 : decode cX12_is 18 = .ok (.bipush 6, 2) := by decide +kernel
theorem dX12_is_20 : decode cX12_is 20 = .ok (.iaload, 1) := by decide +kernel
theorem dX12_is_21 : decode cX12_is 21 = .ok (.iload_n 3, 1) := by decide +kernel
theorem dX12_is_22 : decode cX12_is 22 = .ok (.if_icmp .ne 7, 3) := by decide +kernel
theorem dX12_is_25 : decode cX12_is 25 = .ok (.iconst 1, 1) := by decide +kernel
theorem dX12_is_26 : decode cX12_is 26 = .ok (.goto 4, 3) := by decide +kernel
theorem dX12_is_29 : decode cX12_is 29 = .ok (.iconst 0, 1) := by decide +kernel
theorem dX12_is_30 : decode cX12_is 30 = .ok (.ireturn, 1) := by decide +kernel
theorem dX12_isSame_0 : decode cX12_isSame 0 = .ok (.iconst 0, 1) := by decide +kernel
theorem dX12_isSame_1 : decode cX12_isSame 1 = .ok (.istore_n 2, 1) := by decide +kernel
theorem dX12_isSame_2 : decode cX12_isSame 2 = .ok (.iload_n 2, 1) := by decide +kernel
theorem dX12_isSame_3 : decode cX12_isSame 3 = .ok (.aload_n 0, 1) := by decide +kernel
theorem dX12_isSame_4 : decode cX12_isSame 4 = .ok (.getfield 50, 3) := by decide +kernel
theorem dX12_isSame_7 : decode cX12_isSame 7 = .ok (.if_icmp .ge 153, 3) := by decide +kernel
theorem dX12_isSame_10 : decode cX12_isSame 10 = .ok (.aload_n 0, 1) := by decide +kernel
theorem dX12_isSame_11 : decode cX12_isSame 11 = .ok (.getfield 30, 3) := by decide +kernel
theorem dX12_isSame_14 : decode cX12_isSame 14 = .ok (.iload_n 2, 1) := by decide +kernel
theorem dX12_isSame_15 : decode cX12_isSame 15 = .ok (.aaload, 1) := by decide +kernel
theorem dX12_isSame_16 : decode cX12_isSame 16 = .ok (.astore_n 3, 1) := by decide +kernel
theorem dX12_isSame_17 : decode cX12_isSame 17 = .ok (.iconst 0, 1) := by decide +kernel
theorem dX12_isSame_18 : decode cX12_isSame 18 = .ok (.istore 4, 2) := by decide +kernel
theorem dX12_isSame_20 : decode cX12_isSame 20 = .ok (.iload 4, 2) := by decide +kernel
theorem dX12_isSame_22 : decode cX12_isSame 22 = .ok (.bipush 7, 2) := by decide +kernel
theorem dX12_isSame_24 : decode cX12_isSame 24 = .ok (.if_icmp .ge 25, 3) := by decide +kernel
theorem dX12_isSame_27 : decode cX12_isSame 27 = .ok (.aload_n 1, 1) := by decide +kernel
theorem dX12_isSame_28 : decode cX12_isSame 28 = .ok (.iload_n 2, 1) := by decide +kernel
theorem dX12_isSame_29 : decode cX12_isSame 29 = .ok (.iload 4, 2) := by decide +kernel
theorem dX12_isSame_31 : decode cX12_isSame 31 = .ok (.invokevirtual 138, 3) := by decide +kernel
theorem dX12_isSame_34 : decode cX12_isSame 34 = .ok (.aload_n 3, 1) := by decide +kernel
theorem dX12_isSame_35 : decode cX12_isSame 35 = .ok (.iload 4, 2) := by decide +kernel
theorem dX12_isSame_37 : decode cX12_isSame 37 = .ok (.iaload, 1) := by decide +kernel
theorem dX12_isSame_38 : decode cX12_isSame 38 = .ok (.if_icmp .eq 5, 3) := by decide +kernel
theorem dX12_isSame_41 : decode cX12_isSame 41 = .ok (.iconst 0, 1) := by decide +kernel
theorem dX12_isSame_42 : decode cX12_isSame 42 = .ok (.ireturn, 1) := by decide +kernel
theorem dX12_isSame_43 : decode cX12_isSame 43 = .ok (.iinc 4 1, 3) := by decide +kernel
theorem dX12_isSame_46 : decode cX12_isSame 46 = .ok (.goto (-26), 3) := by decide +kernel
theorem dX12_isSame_49 : decode cX12_isSame 49 = .ok (.aload_n 1, 1) := by decide +kernel
theorem dX12_isSame_50 : decode cX12_isSame 50 = .ok (.iload_n 2, 1) := by decide +kernel
theorem dX12_isSame_51 : decode cX12_isSame 51 = .ok (.bipush 7, 2) := by decide +kernel
theorem dX12_isSame_53 : decode cX12_isSame 53 = .ok (.invokevirtual 138, 3) := by decide +kernel
theorem dX12_isSame_56 : decode cX12_isSame 56 = .ok (.aload_n 3, 1) := by decide +kernel
theorem dX12_isSame_57 : decode cX12_isSame 57 = .ok (.bipush 6, 2) := by decide +kernel
theorem dX12_isSame_59 : decode cX12_isSame 59 = .ok (.iaload, 1) := by decide +kernel
theorem dX12_isSame_60 : decode cX12_isSame 60 = .ok (.iconst 1, 1) := by decide +kernel
theorem dX12_isSame_61 : decode cX12_isSame 61 = .ok (.if_icmp .ne 10, 3) := by decide +kernel
theorem dX12_isSame_64 : decode cX12_isSame 64 = .ok (.aload_n 3, 1) := by decide +kernel
theorem dX12_isSame_65 : decode cX12_isSame 65 = .ok (.bipush 7, 2) := by decide +kernel
theorem dX12_isSame_67 : decode cX12_isSame 67 = .ok (.iaload, 1) := by decide +kernel
theorem dX12_isSame_68 : decode cX12_isSame 68 = .ok (.goto 4, 3) := by decide +kernel
theorem dX12_isSame_71 : decode cX12_isSame 71 = .ok (.iconst (-1), 1) := by decide +kernel
theorem dX12_isSame_72 : decode cX12_isSame 72 = .ok (.if_icmp .ne 43, 3) := by decide +kernel
theorem dX12_isSame_75 : decode cX12_isSame 75 = .ok (.aload_n 1, 1) := by decide +kernel
theorem dX12_isSame_76 : decode cX12_isSame 76 = .ok (.iload_n 2, 1) := by decide +kernel
theorem dX12_isSame_77 : decode cX12_isSame 77 = .ok (.bipush 8, 2) := by decide +kernel
theorem dX12_isSame_79 : decode cX12_isSame 79 = .ok (.invokevirtual 138, 3) := by decide +kernel
theorem dX12_isSame_82 : decode cX12_isSame 82 = .ok (.aload_n 0, 1) := by decide +kernel
theorem dX12_isSame_83 : decode cX12_isSame 83 = .ok (.getfield 23, 3) := by decide +kernel
theorem dX12_isSame_86 : decode cX12_isSame 86 = .ok (.iload_n 2, 1) := by decide +kernel
theorem dX12_isSame_87 : decode cX12_isSame 87 = .ok (.iaload, 1) := by decide +kernel
theorem dX12_isSame_88 : decode cX12_isSame 88 = .ok (.if_icmp .ne 27, 3) := by decide +kernel
theorem dX12_isSame_91 : decode cX12_isSame 91 = .ok (.aload_n 1, 1) := by decide +kernel
theorem dX12_isSame_92 : decode cX12_isSame 92 = .ok (.iload_n 2, 1) := by decide +kernel
theorem dX12_isSame_93 : decode cX12_isSame 93 = .ok (.bipush 9, 2) := by decide +kernel
theorem dX12_isSame_95 : decode cX12_isSame 95 = .ok (.invokevirtual 138, 3) := by decide +kernel
theorem dX12_isSame_98 : decode cX12_isSame 98 = .ok (.bipush (-2), 2) := by decide +kernel
theorem dX12_isSame_100 : decode cX12_isSame 100 = .ok (.if_icmp .ne 15, 3) := by decide +kernel
theorem dX12_isSame_103 : decode cX12_isSame 103 = .ok (.aload_n 1, 1) := by decide +kernel
theorem dX12_isSame_104 : decode cX12_isSame 104 = .ok (.iload_n 2, 1) := by decide +kernel
theorem dX12_isSame_105 : decode cX12_isSame 105 = .ok (.bipush 14, 2) := by decide +kernel
theorem dX12_isSame_107 : decode cX12_isSame 107 = .ok (.invokevirtual 138, 3) := by decide +kernel
theorem dX12_isSame_110 : decode cX12_isSame 110 = .ok (.bipush (-2), 2) := by decide +kernel
theorem dX12_isSame_112 : decode cX12_isSame 112 = .ok (.if_icmp .eq 5, 3) := by decide +kernel
theorem dX12_isSame_115 : decode cX12_isSame 115 = .ok (.iconst 0, 1) := by decide +kernel
theorem dX12_isSame_116 : decode cX12_isSame 116 = .ok (.ireturn, 1) := by decide +kernel
theorem dX12_isSame_117 : decode cX12_isSame 117 = .ok (.iconst 0, 1) := by decide +kernel
theorem dX12_isSame_118 : decode cX12_isSame 118 = .ok (.istore 4, 2) := by decide +kernel
theorem dX12_isSame_120 : decode cX12_isSame 120 = .ok (.iload 4, 2) := by decide +kernel
theorem dX12_isSame_122 : decode cX12_isSame 122 = .ok (.iconst 4, 1) := by decide +kernel
theorem dX12_isSame_123 : decode cX12_isSame 123 = .ok (.if_icmp .ge 31, 3) := by decide +kernel
theorem dX12_isSame_126 : decode cX12_isSame 126 = .ok (.aload_n 1, 1) := by decide +kernel
theorem dX12_isSame_127 : decode cX12_isSame 127 = .ok (.iload_n 2, 1) := by decide +kernel
theorem dX12_isSame_128 : decode cX12_isSame 128 = .ok (.bipush 10, 2) := by decide +kernel
theorem dX12_isSame_130 : decode cX12_isSame 130 = .ok (.iload 4, 2) := by decide +kernel
theorem dX12_isSame_132 : decode cX12_isSame 132 = .ok (.iadd, 1) := by decide +kernel
theorem dX12_isSame_133 : decode cX12_isSame 133 = .ok (.invokevirtual 138, 3) := by decide +kernel
theorem dX12_isSame_136 : decode cX12_isSame 136 = .ok (.aload_n 0, 1) := by decide +kernel
theorem dX12_isSame_137 : decode cX12_isSame 137 = .ok (.iload 4, 2) := by decide +kernel
theorem dX12_isSame_139 : decode cX12_isSame 139 = .ok (.iload_n 2, 1) := by decide +kernel
theorem dX12_isSame_140 : decode cX12_isSame 140 = .ok (.invokevirtual 89, 3) := by decide +kernel
theorem dX12_isSame_143 : decode cX12_isSame 143 = .ok (.if_icmp .eq 5, 3) := by decide +kernel
theorem dX12_isSame_146 : decode cX12_isSame 146 = .ok (.iconst 0, 1) := by decide +kernel
theorem dX12_isSame_147 : decode cX12_isSame 147 = .ok (.ireturn, 1) := by decide +kernel
theorem dX12_isSame_148 : decode cX12_isSame 148 = .ok (.iinc 4 1, 3) := by decide +kernel
theorem dX12_isSame_151 : decode cX12_isSame 151 = .ok (.goto (-31), 3) := by decide +kernel
theorem dX12_isSame_154 : decode cX12_isSame 154 = .ok (.iinc 2 1, 3) := by decide +kernel
theorem dX12_isSame_157 : decode cX12_isSame 157 = .ok (.goto (-155), 3) := by decide +kernel
theorem dX12_isSame_160 : decode cX12_isSame 160 = .ok (.iconst 0, 1) := by decide +kernel
theorem dX12_isSame_161 : decode cX12_isSame 161 = .ok (.istore_n 2, 1) := by decide +kernel
theorem dX12_isSame_162 : decode cX12_isSame 162 = .ok (.iload_n 2, 1) := by decide +kernel
theorem dX12_isSame_163 : decode cX12_isSame 163 = .ok (.iconst 2, 1) := by decide +kernel
theorem dX12_isSame_164 : decode cX12_isSame 164 = .ok (.if_icmp .ge 94, 3) := by decide +kernel
theorem dX12_isSame_167 : decode cX12_isSame 167 = .ok (.aload_n 1, 1) := by decide +kernel
theorem dX12_isSame_168 : decode cX12_isSame 168 = .ok (.iload_n 2, 1) := by decide +kernel
theorem dX12_isSame_169 : decode cX12_isSame 169 = .ok (.iconst 0, 1) := by decide +kernel
theorem dX12_isSame_170 : decode cX12_isSame 170 = .ok (.invokevirtual 143, 3) := by decide +kernel
theorem dX12_isSame_173 : decode cX12_isSame 173 = .ok (.aload_n 0, 1) := by decide +kernel
theorem dX12_isSame_174 : decode cX12_isSame 174 = .ok (.iload_n 2, 1) := by decide +kernel
theorem dX12_isSame_175 : decode cX12_isSame 175 = .ok (.invokevirtual 97, 3) := by decide +kernel
theorem dX12_isSame_178 : decode cX12_isSame 178 = .ok (.if_icmp .ne 72, 3) := by decide +kernel
theorem dX12_isSame_181 : decode cX12_isSame 181 = .ok (.aload_n 1, 1) := by decide +kernel
theorem dX12_isSame_182 : decode cX12_isSame 182 = .ok (.iload_n 2, 1) := by decide +kernel
theorem dX12_isSame_183 : decode cX12_isSame 183 = .ok (.iconst 1, 1) := by decide +kernel
theorem dX12_isSame_184 : decode cX12_isSame 184 = .ok (.invokevirtual 143, 3) := by decide +kernel
theorem dX12_isSame_187 : decode cX12_isSame 187 = .ok (.aload_n 0, 1) := by decide +kernel
theorem dX12_isSame_188 : decode cX12_isSame 188 = .ok (.iload_n 2, 1) := by decide +kernel
theorem dX12_isSame_189 : decode cX12_isSame 189 = .ok (.invokevirtual 132, 3) := by decide +kernel
theorem dX12_isSame_192 : decode cX12_isSame 192 = .ok (.if_icmp .ne 58, 3) := by decide +kernel
theorem dX12_isSame_195 : decode cX12_isSame 195 = .ok (.aload_n 1, 1) := by decide +kernel
theorem dX12_isSame_196 : decode cX12_isSame 196 = .ok (.iload_n 2, 1) := by decide +kernel
theorem dX12_isSame_197 : decode cX12_isSame 197 = .ok (.iconst 2, 1) := by decide +kernel
theorem dX12_isSame_198 : decode cX12_isSame 198 = .ok (.invokevirtual 143, 3) := by decide +kernel
theorem dX12_isSame_201 : decode cX12_isSame 201 = .ok (.aload_n 0, 1) := by decide +kernel
theorem dX12_isSame_202 : decode cX12_isSame 202 = .ok (.aload_n 0, 1) := by decide +kernel
theorem dX12_isSame_203 : decode cX12_isSame 203 = .ok (.iload_n 2, 1) := by decide +kernel
theorem dX12_isSame_204 : decode cX12_isSame 204 = .ok (.invokevirtual 132, 3) := by decide +kernel
theorem dX12_isSame_207 : decode cX12_isSame 207 = .ok (.invokevirtual 135, 3) := by decide +kernel
theorem dX12_isSame_210 : decode cX12_isSame 210 = .ok (.if_icmp .ne 40, 3) := by decide +kernel
theorem dX12_isSame_213 : decode cX12_isSame 213 = .ok (.aload_n 1, 1) := by decide +kernel
theorem dX12_isSame_214 : decode cX12_isSame 214 = .ok (.iload_n 2, 1) := by decide +kernel
theorem dX12_isSame_215 : decode cX12_isSame 215 = .ok (.iconst 3, 1) := by decide +kernel
theorem dX12_isSame_216 : decode cX12_isSame 216 = .ok (.invokevirtual 143, 3) := by decide +kernel
theorem dX12_isSame_219 : decode cX12_isSame 219 = .ok (.aload_n 0, 1) := by decide +kernel
theorem dX12_isSame_220 : decode cX12_isSame 220 = .ok (.getfield 19, 3) := by decide +kernel
theorem dX12_isSame_223 : decode cX12_isSame 223 = .ok (.iload_n 2, 1) := by decide +kernel
theorem dX12_isSame_224 : decode cX12_isSame 224 = .ok (.iaload, 1) := by decide +kernel
theorem dX12_isSame_225 : decode cX12_isSame 225 = .ok (.if_icmp .ne 25, 3) := by decide +kernel
theorem dX12_isSame_228 : decode cX12_isSame 228 = .ok (.aload_n 1, 1) := by decide +kernel
theorem dX12_isSame_229 : decode cX12_isSame 229 = .ok (.iload_n 2, 1) := by decide +kernel
theorem dX12_isSame_230 : decode cX12_isSame 230 = .ok (.iconst 4, 1) := by decide +kernel
theorem dX12_isSame_231 : decode cX12_isSame 231 = .ok (.invokevirtual 143, 3) := by decide +kernel
theorem dX12_isSame_234 : decode cX12_isSame 234 = .ok (.aload_n 0, 1) := by decide +kernel
theorem dX12_isSame_235 : decode cX12_isSame 235 = .ok (.iload_n 2, 1) := by decide +kernel
theorem dX12_isSame_236 : decode cX12_isSame 236 = .ok (.invokevirtual 107, 3) := by decide +kernel
theorem dX12_isSame_239 : decode cX12_isSame 239 = .ok (.ifCond .eq 7, 3) := by decide +kernel
theorem dX12_isSame_242 : decode cX12_isSame 242 = .ok (.iconst 1, 1) := by decide +kernel
theorem dX12_isSame_243 : decode cX12_isSame 243 = .ok (.goto 4, 3) := by decide +kernel
theorem dX12_isSame_246 : decode cX12_isSame 246 = .ok (.iconst 0, 1) := by decide +kernel
theorem dX12_isSame_247 : decode cX12_isSame 247 = .ok (.if_icmp .eq 5, 3) := by decide +kernel
theorem dX12_isSame_250 : decode cX12_isSame 250 = .ok (.iconst 0, 1) := by decide +kernel
theorem dX12_isSame_251 : decode cX12_isSame 251 = .ok (.ireturn, 1) := by decide +kernel
theorem dX12_isSame_252 : decode cX12_isSame 252 = .ok (.iinc 2 1, 3) := by decide +kernel
theorem dX12_isSame_255 : decode cX12_isSame 255 = .ok (.goto (-93), 3) := by decide +kernel
theorem dX12_isSame_258 : decode cX12_isSame 258 = .ok (.iconst 0, 1) := by decide +kernel
theorem dX12_isSame_259 : decode cX12_isSame 259 = .ok (.istore_n 2, 1) := by decide +kernel
theorem dX12_isSame_260 : decode cX12_isSame 260 = .ok (.iload_n 2, 1) := by decide +kernel
theorem dX12_isSame_261 : decode cX12_isSame 261 = .ok (.bipush 8, 2) := by decide +kernel
theorem dX12_isSame_263 : decode cX12_isSame 263 = .ok (.if_icmp .ge 25, 3) := by decide +kernel
theorem dX12_isSame_266 : decode cX12_isSame 266 = .ok (.aload_n 1, 1) := by decide +kernel
theorem dX12_isSame_267 : decode cX12_isSame 267 = .ok (.iload_n 2, 1) := by decide +kernel
theorem dX12_isSame_268 : decode cX12_isSame 268 = .ok (.invokevirtual 146, 3) := by decide +kernel
theorem dX12_isSame_271 : decode cX12_isSame 271 = .ok (.aload_n 0, 1) := by decide +kernel
theorem dX12_isSame_272 : decode cX12_isSame 272 = .ok (.getfield 26, 3) := by decide +kernel
theorem dX12_isSame_275 : decode cX12_isSame 275 = .ok (.iload_n 2, 1) := by decide +kernel
theorem dX12_isSame_276 : decode cX12_isSame 276 = .ok (.iaload, 1) := by decide +kernel
theorem dX12_isSame_277 : decode cX12_isSame 277 = .ok (.if_icmp .eq 5, 3) := by decide +kernel
theorem dX12_isSame_280 : decode cX12_isSame 280 = .ok (.iconst 0, 1) := by decide +kernel
theorem dX12_isSame_281 : decode cX12_isSame 281 = .ok (.ireturn, 1) := by decide +kernel
theorem dX12_isSame_282 : decode cX12_isSame 282 = .ok (.iinc 2 1, 3) := by decide +kernel
theorem dX12_isSame_285 : decode cX12_isSame 285 = .ok (.goto (-25), 3) := by decide +kernel
theorem dX12_isSame_288 : decode cX12_isSame 288 = .ok (.iconst 0, 1) := by decide +kernel
theorem dX12_isSame_289 : decode cX12_isSame 289 = .ok (.istore_n 2, 1) := by decide +kernel
theorem dX12_isSame_290 : decode cX12_isSame 290 = .ok (.iload_n 2, 1) := by decide +kernel
theorem dX12_isSame_291 : decode cX12_isSame 291 = .ok (.aload_n 0, 1) := by decide +kernel
theorem dX12_isSame_292 : decode cX12_isSame 292 = .ok (.getfield 53, 3) := by decide +kernel
theorem dX12_isSame_295 : decode cX12_isSame 295 = .ok (.if_icmp .ge 41, 3) := by decide +kernel
theorem dX12_isSame_298 : decode cX12_isSame 298 = .ok (.iconst 0, 1) := by decide +kernel
theorem dX12_isSame_299 : decode cX12_isSame 299 = .ok (.istore_n 3, 1) := by decide +kernel
theorem dX12_isSame_300 : decode cX12_isSame 300 = .ok (.iload_n 3, 1) := by decide +kernel
theorem dX12_isSame_301 : decode cX12_isSame 301 = .ok (.iconst 4, 1) := by decide +kernel
theorem dX12_isSame_302 : decode cX12_isSame 302 = .ok (.if_icmp .ge 28, 3) := by decide +kernel
theorem dX12_isSame_305 : decode cX12_isSame 305 = .ok (.aload_n 1, 1) := by decide +kernel
theorem dX12_isSame_306 : decode cX12_isSame 306 = .ok (.iload_n 2, 1) := by decide +kernel
theorem dX12_isSame_307 : decode cX12_isSame 307 = .ok (.iload_n 3, 1) := by decide +kernel
theorem dX12_isSame_308 : decode cX12_isSame 308 = .ok (.invokevirtual 148, 3) := by decide +kernel
theorem dX12_isSame_311 : decode cX12_isSame 311 = .ok (.aload_n 0, 1) := by decide +kernel
theorem dX12_isSame_312 : decode cX12_isSame 312 = .ok (.getfield 34, 3) := by decide +kernel
theorem dX12_isSame_315 : decode cX12_isSame 315 = .ok (.iload_n 2, 1) := by decide +kernel
theorem dX12_isSame_316 : decode cX12_isSame 316 = .ok (.aaload, 1) := by decide +kernel
theorem dX12_isSame_317 : decode cX12_isSame 317 = .ok (.iload_n 3, 1) := by decide +kernel
theorem dX12_isSame_318 : decode cX12_isSame 318 = .ok (.iaload, 1) := by decide +kernel
theorem dX12_isSame_319 : decode cX12_isSame 319 = .ok (.if_icmp .eq 5, 3) := by decide +kernel
theorem dX12_isSame_322 : decode cX12_isSame 322 = .ok (.iconst 0, 1) := by decide +kernel
theorem dX12_isSame_323 : decode cX12_isSame 323 = .ok (.ireturn, 1) := by decide +kernel
theorem dX12_isSame_324 : decode cX12_isSame 324 = .ok (.iinc 3 1, 3) := by decide +kernel
theorem dX12_isSame_327 : decode cX12_isSame 327 = .ok (.goto (-27), 3) := by decide +kernel
theorem dX12_isSame_330 : decode cX12_isSame 330 = .ok (.iinc 2 1, 3) := by decide +kernel
theorem dX12_isSame_333 : decode cX12_isSame 333 = .ok (.goto (-43), 3) := by decide +kernel
theorem dX12_isSame_336 : decode cX12_isSame 336 = .ok (.bipush 9, 2) := by decide +kernel
theorem dX12_isSame_338 : decode cX12_isSame 338 = .ok (.newarray .int, 2) := by decide +kernel
theorem dX12_isSame_340 : decode cX12_isSame 340 = .ok (.dup, 1) := by decide +kernel
theorem dX12_isSame_341 : decode cX12_isSame 341 = .ok (.iconst 0, 1) := by decide +kernel
theorem dX12_isSame_342 : decode cX12_isSame 342 = .ok (.aload_n 0, 1) := by decide +kernel
theorem dX12_isSame_343 : decode cX12_isSame 343 = .ok (.getfield 50, 3) := by decide +kernel
theorem dX12_isSame_346 : decode cX12_isSame 346 = .ok (.iastore, 1) := by decide +kernel
theorem dX12_isSame_347 : decode cX12_isSame 347 = .ok (.dup, 1) := by decide +kernel
theorem dX12_isSame_348 : decode cX12_isSame 348 = .ok (.iconst 1, 1) := by decide +kernel
theorem dX12_isSame_349 : decode cX12_isSame 349 = .ok (.aload_n 0, 1) := by decide +kernel
theorem dX12_isSame_350 : decode cX12_isSame 350 = .ok (.getfield 44, 3) := by decide +kernel
theorem dX12_isSame_353 : decode cX12_isSame 353 = .ok (.iastore, 1) := by decide +kernel
theorem dX12_isSame_354 : decode cX12_isSame 354 = .ok (.dup, 1) := by decide +kernel
theorem dX12_isSame_355 : decode cX12_isSame 355 = .ok (.iconst 2, 1) := by decide +kernel
theorem dX12_isSame_356 : decode cX12_isSame 356 = .ok (.aload_n 0, 1) := by decide +kernel
theorem dX12_isSame_357 : decode cX12_isSame 357 = .ok (.getfield 7, 3) := by decide +kernel
theorem dX12_isSame_360 : decode cX12_isSame 360 = .ok (.iastore, 1) := by decide +kernel
theorem dX12_isSame_361 : decode cX12_isSame 361 = .ok (.dup, 1) := by decide +kernel
theorem dX12_isSame_362 : decode cX12_isSame 362 = .ok (.iconst 3, 1) := by decide +kernel
theorem dX12_isSame_363 : decode cX12_isSame 363 = .ok (.aload_n 0, 1) := by decide +kernel
theorem dX12_isSame_364 : decode cX12_isSame 364 = .ok (.getfield 13, 3) := by decide +kernel
theorem dX12_isSame_367 : decode cX12_isSame 367 = .ok (.iastore, 1) := by decide +kernel
theorem dX12_isSame_368 : decode cX12_isSame 368 = .ok (.dup, 1) := by decide +kernel
theorem dX12_isSame_369 : decode cX12_isSame 369 = .ok (.iconst 4, 1) := by decide +kernel
theorem dX12_isSame_370 : decode cX12_isSame 370 = .ok (.aload_n 0, 1) := by decide +kernel
theorem dX12_isSame_371 : decode cX12_isSame 371 = .ok (.getfield 47, 3) := by decide +kernel
theorem dX12_isSame_374 : decode cX12_isSame 374 = .ok (.iastore, 1) := by decide +kernel
theorem dX12_isSame_375 : decode cX12_isSame 375 = .ok (.dup, 1) := by decide +kernel
theorem dX12_isSame_376 : decode cX12_isSame 376 = .ok (.iconst 5, 1) := by decide +kernel
theorem dX12_isSame_377 : decode cX12_isSame 377 = .ok (.aload_n 0, 1) := by decide +kernel
theorem dX12_isSame_378 : decode cX12_isSame 378 = .ok (.getfield 16, 3) := by decide +kernel
theorem dX12_isSame_381 : decode cX12_isSame 381 = .ok (.iastore, 1) := by decide +kernel
theorem dX12_isSame_382 : decode cX12_isSame 382 = .ok (.dup, 1) := by decide +kernel
theorem dX12_isSame_383 : decode cX12_isSame 383 = .ok (.bipush 6, 2) := by decide +kernel
theorem dX12_isSame_385 : decode cX12_isSame 385 = .ok (.aload_n 0, 1) := by decide +kernel
theorem dX12_isSame_386 : decode cX12_isSame 386 = .ok (.getfield 56, 3) := by decide +kernel
theorem dX12_isSame_389 : decode cX12_isSame 389 = .ok (.iastore, 1) := by decide +kernel
theorem dX12_isSame_390 : decode cX12_isSame 390 = .ok (.dup, 1) := by decide +kernel
theorem dX12_isSame_391 : decode cX12_isSame 391 = .ok (.bipush 7, 2) := by decide +kernel
theorem dX12_isSame_393 : decode cX12_isSame 393 = .ok (.aload_n 0, 1) := by decide +kernel
theorem dX12_isSame_394 : decode cX12_isSame 394 = .ok (.getfield 53, 3) := by decide +kernel
theorem dX12_isSame_397 : decode cX12_isSame 397 = .ok (.iastore, 1) := by decide +kernel
theorem dX12_isSame_398 : decode cX12_isSame 398 = .ok (.dup, 1) := by decide +kernel
theorem dX12_isSame_399 : decode cX12_isSame 399 = .ok (.bipush 8, 2) := by decide +kernel
theorem dX12_isSame_401 : decode cX12_isSame 401 = .ok (.aload_n 0, 1) := by decide +kernel
theorem dX12_isSame_402 : decode cX12_isSame 402 = .ok (.getfield 41, 3) := by decide +kernel
theorem dX12_isSame_405 : decode cX12_isSame 405 = .ok (.iastore, 1) := by decide +kernel
theorem dX12_isSame_406 : decode cX12_isSame 406 = .ok (.astore_n 2, 1) := by decide +kernel
theorem dX12_isSame_407 : decode cX12_isSame 407 = .ok (.iconst 0, 1) := by decide +kernel
theorem dX12_isSame_408 : decode cX12_isSame 408 = .ok (.istore_n 3, 1) := by decide +kernel
theorem dX12_isSame_409 : decode cX12_isSame 409 = .ok (.iload_n 3, 1) := by decide +kernel
theorem dX12_isSame_410 : decode cX12_isSame 410 = .ok (.bipush 9, 2) := by decide +kernel
theorem dX12_isSame_412 : decode cX12_isSame 412 = .ok (.if_icmp .ge 22, 3) := by decide +kernel
theorem dX12_isSame_415 : decode cX12_isSame 415 = .ok (.aload_n 1, 1) := by decide +kernel
theorem dX12_isSame_416 : decode cX12_isSame 416 = .ok (.iload_n 3, 1) := by decide +kernel
theorem dX12_isSame_417 : decode cX12_isSame 417 = .ok (.invokevirtual 151, 3) := by decide +kernel
theorem dX12_isSame_420 : decode cX12_isSame 420 = .ok (.aload_n 2, 1) := by decide +kernel
theorem dX12_isSame_421 : decode cX12_isSame 421 = .ok (.iload_n 3, 1) := by decide +kernel
theorem dX12_isSame_422 : decode cX12_isSame 422 = .ok (.iaload, 1) := by decide +kernel
theorem dX12_isSame_423 : decode cX12_isSame 423 = .ok (.if_icmp .eq 5, 3) := by decide +kernel
theorem dX12_isSame_426 : decode cX12_isSame 426 = .ok (.iconst 0, 1) := by decide +kernel
theorem dX12_isSame_427 : decode cX12_isSame 427 = .ok (.ireturn, 1) := by decide +kernel
theorem dX12_isSame_428 : decode cX12_isSame 428 = .ok (.iinc 3 1, 3) := by decide +kernel
theorem dX12_isSame_431 : decode cX12_isSame 431 = .ok (.goto (-22), 3) := by decide +kernel
theorem dX12_isSame_434 : decode cX12_isSame 434 = .ok (.aload_n 1, 1) := by decide +kernel
theorem dX12_isSame_435 : decode cX12_isSame 435 = .ok (.aload_n 0, 1) := by decide +kernel
theorem dX12_isSame_436 : decode cX12_isSame 436 = .ok (.getfield 50, 3) := by decide +kernel
theorem dX12_isSame_439 : decode cX12_isSame 439 = .ok (.iconst 0, 1) := by decide +kernel
theorem dX12_isSame_440 : decode cX12_isSame 440 = .ok (.invokevirtual 138, 3) := by decide +kernel
theorem dX12_isSame_443 : decode cX12_isSame 443 = .ok (.bipush (-2), 2) := by decide +kernel
theorem dX12_isSame_445 : decode cX12_isSame 445 = .ok (.if_icmp .ne 47, 3) := by decide +kernel
theorem dX12_isSame_448 : decode cX12_isSame 448 = .ok (.aload_n 1, 1) := by decide +kernel
theorem dX12_isSame_449 : decode cX12_isSame 449 = .ok (.aload_n 0, 1) := by decide +kernel
theorem dX12_isSame_450 : decode cX12_isSame 450 = .ok (.getfield 53, 3) := by decide +kernel
theorem dX12_isSame_453 : decode cX12_isSame 453 = .ok (.iconst 0, 1) := by decide +kernel
theorem dX12_isSame_454 : decode cX12_isSame 454 = .ok (.invokevirtual 148, 3) := by decide +kernel
theorem dX12_isSame_457 : decode cX12_isSame 457 = .ok (.bipush (-2), 2) := by decide +kernel
theorem dX12_isSame_459 : decode cX12_isSame 459 = .ok (.if_icmp .ne 33, 3) := by decide +kernel
theorem dX12_isSame_462 : decode cX12_isSame 462 = .ok (.aload_n 1, 1) := by decide +kernel
theorem dX12_isSame_463 : decode cX12_isSame 463 = .ok (.bipush 10, 2) := by decide +kernel
theorem dX12_isSame_465 : decode cX12_isSame 465 = .ok (.invokevirtual 151, 3) := by decide +kernel
theorem dX12_isSame_468 : decode cX12_isSame 468 = .ok (.aload_n 0, 1) := by decide +kernel
theorem dX12_isSame_469 : decode cX12_isSame 469 = .ok (.getfield 59, 3) := by decide +kernel
theorem dX12_isSame_472 : decode cX12_isSame 472 = .ok (.if_icmp .ne 20, 3) := by decide +kernel
theorem dX12_isSame_475 : decode cX12_isSame 475 = .ok (.aload_n 1, 1) := by decide +kernel
theorem dX12_isSame_476 : decode cX12_isSame 476 = .ok (.bipush 12, 2) := by decide +kernel
theorem dX12_isSame_478 : decode cX12_isSame 478 = .ok (.invokevirtual 151, 3) := by decide +kernel
theorem dX12_isSame_481 : decode cX12_isSame 481 = .ok (.aload_n 0, 1) := by decide +kernel
theorem dX12_isSame_482 : decode cX12_isSame 482 = .ok (.getfield 62, 3) := by decide +kernel
theorem dX12_isSame_485 : decode cX12_isSame 485 = .ok (.if_icmp .ne 7, 3) := by decide +kernel
theorem dX12_isSame_488 : decode cX12_isSame 488 = .ok (.iconst 1, 1) := by decide +kernel
theorem dX12_isSame_489 : decode cX12_isSame 489 = .ok (.goto 4, 3) := by decide +kernel
theorem dX12_isSame_492 : decode cX12_isSame 492 = .ok (.iconst 0, 1) := by decide +kernel
theorem dX12_isSame_493 : decode cX12_isSame 493 = .ok (.ireturn, 1) := by decide +kernel
theorem dX12_knows_0 : decode cX12_knows 0 = .ok (.iconst 0, 1) := by decide +kernel
theorem dX12_knows_1 : decode cX12_knows 1 = .ok (.istore_n 2, 1) := by decide +kernel
theorem dX12_knows_2 : decode cX12_knows 2 = .ok (.iconst 0, 1) := by decide +kernel
theorem dX12_knows_3 : decode cX12_knows 3 = .ok (.istore_n 3, 1) := by decide +kernel
theorem dX12_knows_4 : decode cX12_knows 4 = .ok (.iload_n 3, 1) := by decide +kernel
theorem dX12_knows_5 : decode cX12_knows 5 = .ok (.aload_n 0, 1) := by decide +kernel
theorem dX12_knows_6 : decode cX12_knows 6 = .ok (.getfield 50, 3) := by decide +kernel
theorem dX12_knows_9 : decode cX12_knows 9 = .ok (.if_icmp .ge 32, 3) := by decide +kernel
theorem dX12_knows_12 : decode cX12_knows 12 = .ok (.aload_n 0, 1) := by decide +kernel
theorem dX12_knows_13 : decode cX12_knows 13 = .ok (.getfield 30, 3) := by decide +kernel
theorem dX12_knows_16 : decode cX12_knows 16 = .ok (.iload_n 3, 1) := by decide +kernel
theorem dX12_knows_17 : decode cX12_knows 17 = .ok (.aaload, 1) := by decide +kernel
theorem dX12_knows_18 : decode cX12_knows 18 = .ok (.iconst 0, 1) := by decide +kernel
theorem dX12_knows_19 : decode cX12_knows 19 = .ok (.iaload, 1) := by decide +kernel
theorem dX12_knows_20 : decode cX12_knows 20 = .ok (.iload_n 1, 1) := by decide +kernel
theorem dX12_knows_21 : decode cX12_knows 21 = .ok (.if_icmp .ne 14, 3) := by decide +kernel
theorem dX12_knows_24 : decode cX12_knows 24 = .ok (.iload_n 2, 1) := by decide +kernel
theorem dX12_knows_25 : decode cX12_knows 25 = .ok (.aload_n 0, 1) := by decide +kernel
theorem dX12_knows_26 : decode cX12_knows 26 = .ok (.getfield 30, 3) := by decide +kernel
theorem dX12_knows_29 : decode cX12_knows 29 = .ok (.iload_n 3, 1) := by decide +kernel
theorem dX12_knows_30 : decode cX12_knows 30 = .ok (.aaload, 1) := by decide +kernel
theorem dX12_knows_31 : decode cX12_knows 31 = .ok (.iconst 4, 1) := by decide +kernel
theorem dX12_knows_32 : decode cX12_knows 32 = .ok (.iaload, 1) := by decide +kernel
theorem dX12_knows_33 : decode cX12_knows 33 = .ok (.ior, 1) := by decide +kernel
theorem dX12_knows_34 : decode cX12_knows 34 = .ok (.istore_n 2, 1) := by decide +kernel
theorem dX12_knows_35 : decode cX12_knows 35 = .ok (.iinc 3 1, 3) := by decide +kernel
theorem dX12_knows_38 : decode cX12_knows 38 = .ok (.goto (-34), 3) := by decide +kernel
theorem dX12_knows_41 : decode cX12_knows 41 = .ok (.iload_n 2, 1) := by decide +kernel
theorem dX12_knows_42 : decode cX12_knows 42 = .ok (.ireturn, 1) := by decide +kernel
theorem dX12_notes_0 : decode cX12_notes 0 = .ok (.iload 4, 2) := by decide +kernel
theorem dX12_notes_2 : decode cX12_notes 2 = .ok (.ifCond .eq 51, 3) := by decide +kernel
theorem dX12_notes_5 : decode cX12_notes 5 = .ok (.aload_n 0, 1) := by decide +kernel
theorem dX12_notes_6 : decode cX12_notes 6 = .ok (.getfield 53, 3) := by decide +kernel
theorem dX12_notes_9 : decode cX12_notes 9 = .ok (.sipush 150, 3) := by decide +kernel
theorem dX12_notes_12 : decode cX12_notes 12 = .ok (.if_icmp .ge 41, 3) := by decide +kernel
theorem dX12_notes_15 : decode cX12_notes 15 = .ok (.aload_n 0, 1) := by decide +kernel
theorem dX12_notes_16 : decode cX12_notes 16 = .ok (.getfield 34, 3) := by decide +kernel
theorem dX12_notes_19 : decode cX12_notes 19 = .ok (.aload_n 0, 1) := by decide +kernel
theorem dX12_notes_20 : decode cX12_notes 20 = .ok (.dup, 1) := by decide +kernel
theorem dX12_notes_21 : decode cX12_notes 21 = .ok (.getfield 53, 3) := by decide +kernel
theorem dX12_notes_24 : decode cX12_notes 24 = .ok (.dup_x1, 1) := by decide +kernel
theorem dX12_notes_25 : decode cX12_notes 25 = .ok (.iconst 1, 1) := by decide +kernel
theorem dX12_notes_26 : decode cX12_notes 26 = .ok (.iadd, 1) := by decide +kernel
theorem dX12_notes_27 : decode cX12_notes 27 = .ok (.putfield 53, 3) := by decide +kernel
theorem dX12_notes_30 : decode cX12_notes 30 = .ok (.iconst 4, 1) := by decide +kernel
theorem dX12_notes_31 : decode cX12_notes 31 = .ok (.newarray .int, 2) := by decide +kernel
theorem dX12_notes_33 : decode cX12_notes 33 = .ok (.dup, 1) := by decide +kernel
theorem dX12_notes_34 : decode cX12_notes 34 = .ok (.iconst 0, 1) := by decide +kernel
theorem dX12_notes_35 : decode cX12_notes 35 = .ok (.aload_n 0, 1) := by decide +kernel
theorem dX12_notes_36 : decode cX12_notes 36 = .ok (.getfield 44, 3) := by decide +kernel
theorem dX12_notes_39 : decode cX12_notes 39 = .ok (.iastore, 1) := by decide +kernel
theorem dX12_notes_40 : decode cX12_notes 40 = .ok (.dup, 1) := by decide +kernel
theorem dX12_notes_41 : decode cX12_notes 41 = .ok (.iconst 1, 1) := by decide +kernel
theorem dX12_notes_42 : decode cX12_notes 42 = .ok (.iload_n 1, 1) := by decide +kernel
theorem dX12_notes_43 : decode cX12_notes 43 = .ok (.iastore, 1) := by decide +kernel
theorem dX12_notes_44 : decode cX12_notes 44 = .ok (.dup, 1) := by decide +kernel
theorem dX12_notes_45 : decode cX12_notes 45 = .ok (.iconst 2, 1) := by decide +kernel
theorem dX12_notes_46 : decode cX12_notes 46 = .ok (.iload_n 2, 1) := by decide +kernel
theorem dX12_notes_47 : decode cX12_notes 47 = .ok (.iastore, 1) := by decide +kernel
theorem dX12_notes_48 : decode cX12_notes 48 = .ok (.dup, 1) := by decide +kernel
theorem dX12_notes_49 : decode cX12_notes 49 = .ok (.iconst 3, 1) := by decide +kernel
theorem dX12_notes_50 : decode cX12_notes 50 = .ok (.iload_n 3, 1) := by decide +kernel
theorem dX12_notes_51 : decode cX12_notes 51 = .ok (.iastore, 1) := by decide +kernel
theorem dX12_notes_52 : decode cX12_notes 52 = .ok (.aastore, 1) := by decide +kernel
theorem dX12_notes_53 : decode cX12_notes 53 = .ok (.return_, 1) := by decide +kernel
theorem dX12_passes_0 : decode cX12_passes 0 = .ok (.aload_n 0, 1) := by decide +kernel
theorem dX12_passes_1 : decode cX12_passes 1 = .ok (.getfield 7, 3) := by decide +kernel
theorem dX12_passes_4 : decode cX12_passes 4 = .ok (.iconst 1, 1) := by decide +kernel
theorem dX12_passes_5 : decode cX12_passes 5 = .ok (.if_icmp .ne 7, 3) := by decide +kernel
theorem dX12_passes_8 : decode cX12_passes 8 = .ok (.iconst 1, 1) := by decide +kernel
theorem dX12_passes_9 : decode cX12_passes 9 = .ok (.goto 4, 3) := by decide +kernel
theorem dX12_passes_12 : decode cX12_passes 12 = .ok (.iconst 0, 1) := by decide +kernel
theorem dX12_passes_13 : decode cX12_passes 13 = .ok (.istore_n 2, 1) := by decide +kernel
theorem dX12_passes_14 : decode cX12_passes 14 = .ok (.iconst 0, 1) := by decide +kernel
theorem dX12_passes_15 : decode cX12_passes 15 = .ok (.istore_n 3, 1) := by decide +kernel
theorem dX12_passes_16 : decode cX12_passes 16 = .ok (.iload_n 3, 1) := by decide +kernel
theorem dX12_passes_17 : decode cX12_passes 17 = .ok (.iconst 2, 1) := by decide +kernel
theorem dX12_passes_18 : decode cX12_passes 18 = .ok (.if_icmp .ge 180, 3) := by decide +kernel
theorem dX12_passes_21 : decode cX12_passes 21 = .ok (.iload_n 2, 1) := by decide +kernel
theorem dX12_passes_22 : decode cX12_passes 22 = .ok (.ifCond .eq 176, 3) := by decide +kernel
theorem dX12_passes_25 : decode cX12_passes 25 = .ok (.aload_n 0, 1) := by decide +kernel
theorem dX12_passes_26 : decode cX12_passes 26 = .ok (.iload_n 3, 1) := by decide +kernel
theorem dX12_passes_27 : decode cX12_passes 27 = .ok (.invokevirtual 97, 3) := by decide +kernel
theorem dX12_passes_30 : decode cX12_passes 30 = .ok (.aload_n 0, 1) := by decide +kernel
theorem dX12_passes_31 : decode cX12_passes 31 = .ok (.getfield 19, 3) := by decide +kernel
theorem dX12_passes_34 : decode cX12_passes 34 = .ok (.iload_n 3, 1) := by decide +kernel
theorem dX12_passes_35 : decode cX12_passes 35 = .ok (.iaload, 1) := by decide +kernel
theorem dX12_passes_36 : decode cX12_passes 36 = .ok (.if_icmp .lt 6, 3) := by decide +kernel
theorem dX12_passes_39 : decode cX12_passes 39 = .ok (.goto 153, 3) := by decide +kernel
theorem dX12_passes_42 : decode cX12_passes 42 = .ok (.iconst (-1), 1) := by decide +kernel
theorem dX12_passes_43 : decode cX12_passes 43 = .ok (.istore 4, 2) := by decide +kernel
theorem dX12_passes_45 : decode cX12_passes 45 = .ok (.aload_n 0, 1) := by decide +kernel
theorem dX12_passes_46 : decode cX12_passes 46 = .ok (.getfield 50, 3) := by decide +kernel
theorem dX12_passes_49 : decode cX12_passes 49 = .ok (.iconst 1, 1) := by decide +kernel
theorem dX12_passes_50 : decode cX12_passes 50 = .ok (.isub, 1) := by decide +kernel
theorem dX12_passes_51 : decode cX12_passes 51 = .ok (.istore 5, 2) := by decide +kernel
theorem dX12_passes_53 : decode cX12_passes 53 = .ok (.iload 5, 2) := by decide +kernel
theorem dX12_passes_55 : decode cX12_passes 55 = .ok (.ifCond .lt 92, 3) := by decide +kernel
theorem dX12_passes_58 : decode cX12_passes 58 = .ok (.aload_n 0, 1) := by decide +kernel
theorem dX12_passes_59 : decode cX12_passes 59 = .ok (.iload 5, 2) := by decide +kernel
theorem dX12_passes_61 : decode cX12_passes 61 = .ok (.iload_n 3, 1) := by decide +kernel
theorem dX12_passes_62 : decode cX12_passes 62 = .ok (.iconst 0, 1) := by decide +kernel
theorem dX12_passes_63 : decode cX12_passes 63 = .ok (.invokevirtual 93, 3) := by decide +kernel
theorem dX12_passes_66 : decode cX12_passes 66 = .ok (.ifCond .eq 75, 3) := by decide +kernel
theorem dX12_passes_69 : decode cX12_passes 69 = .ok (.aload_n 0, 1) := by decide +kernel
theorem dX12_passes_70 : decode cX12_passes 70 = .ok (.iload 5, 2) := by decide +kernel
theorem dX12_passes_72 : decode cX12_passes 72 = .ok (.invokevirtual 100, 3) := by decide +kernel
theorem dX12_passes_75 : decode cX12_passes 75 = .ok (.ifCond .ne 6, 3) := by decide +kernel
theorem dX12_passes_78 : decode cX12_passes 78 = .ok (.goto 63, 3) := by decide +kernel
theorem dX12_passes_81 : decode cX12_passes 81 = .ok (.iload 4, 2) := by decide +kernel
theorem dX12_passes_83 : decode cX12_passes 83 = .ok (.ifCond .lt 54, 3) := by decide +kernel
theorem dX12_passes_86 : decode cX12_passes 86 = .ok (.aload_n 0, 1) := by decide +kernel
theorem dX12_passes_87 : decode cX12_passes 87 = .ok (.iload 5, 2) := by decide +kernel
theorem dX12_passes_89 : decode cX12_passes 89 = .ok (.invokevirtual 100, 3) := by decide +kernel
theorem dX12_passes_92 : decode cX12_passes 92 = .ok (.aload_n 0, 1) := by decide +kernel
theorem dX12_passes_93 : decode cX12_passes 93 = .ok (.iload 4, 2) := by decide +kernel
theorem dX12_passes_95 : decode cX12_passes 95 = .ok (.invokevirtual 100, 3) := by decide +kernel
theorem dX12_passes_98 : decode cX12_passes 98 = .ok (.if_icmp .gt 39, 3) := by decide +kernel
theorem dX12_passes_101 : decode cX12_passes 101 = .ok (.aload_n 0, 1) := by decide +kernel
theorem dX12_passes_102 : decode cX12_passes 102 = .ok (.iload 5, 2) := by decide +kernel
theorem dX12_passes_104 : decode cX12_passes 104 = .ok (.invokevirtual 100, 3) := by decide +kernel
theorem dX12_passes_107 : decode cX12_passes 107 = .ok (.aload_n 0, 1) := by decide +kernel
theorem dX12_passes_108 : decode cX12_passes 108 = .ok (.iload 4, 2) := by decide +kernel
theorem dX12_passes_110 : decode cX12_passes 110 = .ok (.invokevirtual 100, 3) := by decide +kernel
theorem dX12_passes_113 : decode cX12_passes 113 = .ok (.if_icmp .ne 28, 3) := by decide +kernel
theorem dX12_passes_116 : decode cX12_passes 116 = .ok (.aload_n 0, 1) := by decide +kernel
theorem dX12_passes_117 : decode cX12_passes 117 = .ok (.getfield 30, 3) := by decide +kernel
theorem dX12_passes_120 : decode cX12_passes 120 = .ok (.iload 5, 2) := by decide +kernel
theorem dX12_passes_122 : decode cX12_passes 122 = .ok (.aaload, 1) := by decide +kernel
theorem dX12_passes_123 : decode cX12_passes 123 = .ok (.iconst 1, 1) := by decide +kernel
theorem dX12_passes_124 : decode cX12_passes 124 = .ok (.iaload, 1) := by decide +kernel
theorem dX12_passes_125 : decode cX12_passes 125 = .ok (.aload_n 0, 1) := by decide +kernel
theorem dX12_passes_126 : decode cX12_passes 126 = .ok (.getfield 30, 3) := by decide +kernel
theorem dX12_passes_129 : decode cX12_passes 129 = .ok (.iload 4, 2) := by decide +kernel
theorem dX12_passes_131 : decode cX12_passes 131 = .ok (.aaload, 1) := by decide +kernel
theorem dX12_passes_132 : decode cX12_passes 132 = .ok (.iconst 1, 1) := by decide +kernel
theorem dX12_passes_133 : decode cX12_passes 133 = .ok (.iaload, 1) := by decide +kernel
theorem dX12_passes_134 : decode cX12_passes 134 = .ok (.if_icmp .lt 7, 3) := by decide +kernel
theorem dX12_passes_137 : decode cX12_passes 137 = .ok (.iload 5, 2) := by decide +kernel
theorem dX12_passes_139 : decode cX12_passes 139 = .ok (.istore 4, 2) := by decide +kernel
theorem dX12_passes_141 : decode cX12_passes 141 = .ok (.iinc 5 (-1), 3) := by decide +kernel
theorem dX12_passes_144 : decode cX12_passes 144 = .ok (.goto (-91), 3) := by decide +kernel
theorem dX12_passes_147 : decode cX12_passes 147 = .ok (.iload 4, 2) := by decide +kernel
theorem dX12_passes_149 : decode cX12_passes 149 = .ok (.ifCond .ge 6, 3) := by decide +kernel
theorem dX12_passes_152 : decode cX12_passes 152 = .ok (.goto 40, 3) := by decide +kernel
theorem dX12_passes_155 : decode cX12_passes 155 = .ok (.aload_n 0, 1) := by decide +kernel
theorem dX12_passes_156 : decode cX12_passes 156 = .ok (.getfield 30, 3) := by decide +kernel
theorem dX12_passes_159 : decode cX12_passes 159 = .ok (.iload 4, 2) := by decide +kernel
theorem dX12_passes_161 : decode cX12_passes 161 = .ok (.aaload, 1) := by decide +kernel
theorem dX12_passes_162 : decode cX12_passes 162 = .ok (.bipush 6, 2) := by decide +kernel
theorem dX12_passes_164 : decode cX12_passes 164 = .ok (.iconst 1, 1) := by decide +kernel
theorem dX12_passes_165 : decode cX12_passes 165 = .ok (.iastore, 1) := by decide +kernel
theorem dX12_passes_166 : decode cX12_passes 166 = .ok (.aload_n 0, 1) := by decide +kernel
theorem dX12_passes_167 : decode cX12_passes 167 = .ok (.getfield 30, 3) := by decide +kernel
theorem dX12_passes_170 : decode cX12_passes 170 = .ok (.iload 4, 2) := by decide +kernel
theorem dX12_passes_172 : decode cX12_passes 172 = .ok (.aaload, 1) := by decide +kernel
theorem dX12_passes_173 : decode cX12_passes 173 = .ok (.bipush 7, 2) := by decide +kernel
theorem dX12_passes_175 : decode cX12_passes 175 = .ok (.bipush 15, 2) := by decide +kernel
theorem dX12_passes_177 : decode cX12_passes 177 = .ok (.iload_n 3, 1) := by decide +kernel
theorem dX12_passes_178 : decode cX12_passes 178 = .ok (.imul, 1) := by decide +kernel
theorem dX12_passes_179 : decode cX12_passes 179 = .ok (.iastore, 1) := by decide +kernel
theorem dX12_passes_180 : decode cX12_passes 180 = .ok (.aload_n 0, 1) := by decide +kernel
theorem dX12_passes_181 : decode cX12_passes 181 = .ok (.iconst 0, 1) := by decide +kernel
theorem dX12_passes_182 : decode cX12_passes 182 = .ok (.iload 4, 2) := by decide +kernel
theorem dX12_passes_184 : decode cX12_passes 184 = .ok (.bipush 15, 2) := by decide +kernel
theorem dX12_passes_186 : decode cX12_passes 186 = .ok (.iload_n 3, 1) := by decide +kernel
theorem dX12_passes_187 : decode cX12_passes 187 = .ok (.imul, 1) := by decide +kernel
theorem dX12_passes_188 : decode cX12_passes 188 = .ok (.iload_n 1, 1) := by decide +kernel
theorem dX12_passes_189 : decode cX12_passes 189 = .ok (.invokevirtual 103, 3) := by decide +kernel
theorem dX12_passes_192 : decode cX12_passes 192 = .ok (.iinc 3 1, 3) := by decide +kernel
theorem dX12_passes_195 : decode cX12_passes 195 = .ok (.goto (-179), 3) := by decide +kernel
theorem dX12_passes_198 : decode cX12_passes 198 = .ok (.iconst 0, 1) := by decide +kernel
theorem dX12_passes_199 : decode cX12_passes 199 = .ok (.istore_n 3, 1) := by decide +kernel
theorem dX12_passes_200 : decode cX12_passes 200 = .ok (.iload_n 3, 1) := by decide +kernel
theorem dX12_passes_201 : decode cX12_passes 201 = .ok (.aload_n 0, 1) := by decide +kernel
theorem dX12_passes_202 : decode cX12_passes 202 = .ok (.getfield 50, 3) := by decide +kernel
theorem dX12_passes_205 : decode cX12_passes 205 = .ok (.if_icmp .ge 186, 3) := by decide +kernel
theorem dX12_passes_208 : decode cX12_passes 208 = .ok (.iload_n 2, 1) := by decide +kernel
theorem dX12_passes_209 : decode cX12_passes 209 = .ok (.ifCond .eq 182, 3) := by decide +kernel
theorem dX12_passes_212 : decode cX12_passes 212 = .ok (.aload_n 0, 1) := by decide +kernel
theorem dX12_passes_213 : decode cX12_passes 213 = .ok (.getfield 30, 3) := by decide +kernel
theorem dX12_passes_216 : decode cX12_passes 216 = .ok (.iload_n 3, 1) := by decide +kernel
theorem dX12_passes_217 : decode cX12_passes 217 = .ok (.aaload, 1) := by decide +kernel
theorem dX12_passes_218 : decode cX12_passes 218 = .ok (.astore 4, 2) := by decide +kernel
theorem dX12_passes_220 : decode cX12_passes 220 = .ok (.aload 4, 2) := by decide +kernel
theorem dX12_passes_222 : decode cX12_passes 222 = .ok (.bipush 6, 2) := by decide +kernel
theorem dX12_passes_224 : decode cX12_passes 224 = .ok (.iaload, 1) := by decide +kernel
theorem dX12_passes_225 : decode cX12_passes 225 = .ok (.iconst 1, 1) := by decide +kernel
theorem dX12_passes_226 : decode cX12_passes 226 = .ok (.if_icmp .eq 6, 3) := by decide +kernel
theorem dX12_passes_229 : decode cX12_passes 229 = .ok (.goto 156, 3) := by decide +kernel
theorem dX12_passes_232 : decode cX12_passes 232 = .ok (.aload_n 0, 1) := by decide +kernel
theorem dX12_passes_233 : decode cX12_passes 233 = .ok (.iconst 2, 1) := by decide +kernel
theorem dX12_passes_234 : decode cX12_passes 234 = .ok (.iload_n 3, 1) := by decide +kernel
theorem dX12_passes_235 : decode cX12_passes 235 = .ok (.invokevirtual 89, 3) := by decide +kernel
theorem dX12_passes_238 : decode cX12_passes 238 = .ok (.istore 5, 2) := by decide +kernel
theorem dX12_passes_240 : decode cX12_passes 240 = .ok (.aload_n 0, 1) := by decide +kernel
theorem dX12_passes_241 : decode cX12_passes 241 = .ok (.aload 4, 2) := by decide +kernel
theorem dX12_passes_243 : decode cX12_passes 243 = .ok (.iconst 0, 1) := by decide +kernel
theorem dX12_passes_244 : decode cX12_passes 244 = .ok (.iaload, 1) := by decide +kernel
theorem dX12_passes_245 : decode cX12_passes 245 = .ok (.invokevirtual 107, 3) := by decide +kernel
theorem dX12_passes_248 : decode cX12_passes 248 = .ok (.ifCond .eq 22, 3) := by decide +kernel
theorem dX12_passes_251 : decode cX12_passes 251 = .ok (.aload 4, 2) := by decide +kernel
theorem dX12_passes_253 : decode cX12_passes 253 = .ok (.iconst 3, 1) := by decide +kernel
theorem dX12_passes_254 : decode cX12_passes 254 = .ok (.bipush 99, 2) := by decide +kernel
theorem dX12_passes_256 : decode cX12_passes 256 = .ok (.aload 4, 2) := by decide +kernel
theorem dX12_passes_258 : decode cX12_passes 258 = .ok (.iconst 3, 1) := by decide +kernel
theorem dX12_passes_259 : decode cX12_passes 259 = .ok (.iaload, 1) := by decide +kernel
theorem dX12_passes_260 : decode cX12_passes 260 = .ok (.bipush 10, 2) := by decide +kernel
theorem dX12_passes_262 : decode cX12_passes 262 = .ok (.iadd, 1) := by decide +kernel
theorem dX12_passes_263 : decode cX12_passes 263 = .ok (.invokestatic 111, 3) := by decide +kernel
theorem dX12_passes_266 : decode cX12_passes 266 = .ok (.iastore, 1) := by decide +kernel
theorem dX12_passes_267 : decode cX12_passes 267 = .ok (.goto 118, 3) := by decide +kernel
theorem dX12_passes_270 : decode cX12_passes 270 = .ok (.iload 5, 2) := by decide +kernel
theorem dX12_passes_272 : decode cX12_passes 272 = .ok (.ifCond .le 22, 3) := by decide +kernel
theorem dX12_passes_275 : decode cX12_passes 275 = .ok (.aload 4, 2) := by decide +kernel
theorem dX12_passes_277 : decode cX12_passes 277 = .ok (.iconst 3, 1) := by decide +kernel
theorem dX12_passes_278 : decode cX12_passes 278 = .ok (.bipush 99, 2) := by decide +kernel
theorem dX12_passes_280 : decode cX12_passes 280 = .ok (.aload 4, 2) := by decide +kernel
theorem dX12_passes_282 : decode cX12_passes 282 = .ok (.iconst 3, 1) := by decide +kernel
theorem dX12_passes_283 : decode cX12_passes 283 = .ok (.iaload, 1) := by decide +kernel
theorem dX12_passes_284 : decode cX12_passes 284 = .ok (.iload 5, 2) := by decide +kernel
theorem dX12_passes_286 : decode cX12_passes 286 = .ok (.iadd, 1) := by decide +kernel
theorem dX12_passes_287 : decode cX12_passes 287 = .ok (.invokestatic 111, 3) := by decide +kernel
theorem dX12_passes_290 : decode cX12_passes 290 = .ok (.iastore, 1) := by decide +kernel
theorem dX12_passes_291 : decode cX12_passes 291 = .ok (.goto 94, 3) := by decide +kernel
theorem dX12_passes_294 : decode cX12_passes 294 = .ok (.aload_n 0, 1) := by decide +kernel
theorem dX12_passes_295 : decode cX12_passes 295 = .ok (.iconst 1, 1) := by decide +kernel
theorem dX12_passes_296 : decode cX12_passes 296 = .ok (.iload_n 3, 1) := by decide +kernel
theorem dX12_passes_297 : decode cX12_passes 297 = .ok (.invokevirtual 89, 3) := by decide +kernel
theorem dX12_passes_300 : decode cX12_passes 300 = .ok (.istore 6, 2) := by decide +kernel
theorem dX12_passes_302 : decode cX12_passes 302 = .ok (.aload 4, 2) := by decide +kernel
theorem dX12_passes_304 : decode cX12_passes 304 = .ok (.bipush 7, 2) := by decide +kernel
theorem dX12_passes_306 : decode cX12_passes 306 = .ok (.iaload, 1) := by decide +kernel
theorem dX12_passes_307 : decode cX12_passes 307 = .ok (.iconst 1, 1) := by decide +kernel
theorem dX12_passes_308 : decode cX12_passes 308 = .ok (.iadd, 1) := by decide +kernel
theorem dX12_passes_309 : decode cX12_passes 309 = .ok (.iconst 2, 1) := by decide +kernel
theorem dX12_passes_310 : decode cX12_passes 310 = .ok (.aload 4, 2) := by decide +kernel
theorem dX12_passes_312 : decode cX12_passes 312 = .ok (.iconst 0, 1) := by decide +kernel
theorem dX12_passes_313 : decode cX12_passes 313 = .ok (.iaload, 1) := by decide +kernel
theorem dX12_passes_314 : decode cX12_passes 314 = .ok (.imul, 1) := by decide +kernel
theorem dX12_passes_315 : decode cX12_passes 315 = .ok (.isub, 1) := by decide +kernel
theorem dX12_passes_316 : decode cX12_passes 316 = .ok (.istore 7, 2) := by decide +kernel
theorem dX12_passes_318 : decode cX12_passes 318 = .ok (.iload 7, 2) := by decide +kernel
theorem dX12_passes_320 : decode cX12_passes 320 = .ok (.ifCond .lt 65, 3) := by decide +kernel
theorem dX12_passes_323 : decode cX12_passes 323 = .ok (.iload 7, 2) := by decide +kernel
theorem dX12_passes_325 : decode cX12_passes 325 = .ok (.bipush 15, 2) := by decide +kernel
theorem dX12_passes_327 : decode cX12_passes 327 = .ok (.if_icmp .gt 58, 3) := by decide +kernel
theorem dX12_passes_330 : decode cX12_passes 330 = .ok (.aload_n 0, 1) := by decide +kernel
theorem dX12_passes_331 : decode cX12_passes 331 = .ok (.iconst 1, 1) := by decide +kernel
theorem dX12_passes_332 : decode cX12_passes 332 = .ok (.aload 4, 2) := by decide +kernel
theorem dX12_passes_334 : decode cX12_passes 334 = .ok (.iconst 0, 1) := by decide +kernel
theorem dX12_passes_335 : decode cX12_passes 335 = .ok (.iaload, 1) := by decide +kernel
theorem dX12_passes_336 : decode cX12_passes 336 = .ok (.isub, 1) := by decide +kernel
theorem dX12_passes_337 : decode cX12_passes 337 = .ok (.aload 4, 2) := by decide +kernel
theorem dX12_passes_339 : decode cX12_passes 339 = .ok (.bipush 7, 2) := by decide +kernel
theorem dX12_passes_341 : decode cX12_passes 341 = .ok (.iaload, 1) := by decide +kernel
theorem dX12_passes_342 : decode cX12_passes 342 = .ok (.invokevirtual 116, 3) := by decide +kernel
theorem dX12_passes_345 : decode cX12_passes 345 = .ok (.ifCond .eq 6, 3) := by decide +kernel
theorem dX12_passes_348 : decode cX12_passes 348 = .ok (.goto 37, 3) := by decide +kernel
theorem dX12_passes_351 : decode cX12_passes 351 = .ok (.iload 6, 2) := by decide +kernel
theorem dX12_passes_353 : decode cX12_passes 353 = .ok (.iconst 1, 1) := by decide +kernel
theorem dX12_passes_354 : decode cX12_passes 354 = .ok (.aload_n 0, 1) := by decide +kernel
theorem dX12_passes_355 : decode cX12_passes 355 = .ok (.getfield 56, 3) := by decide +kernel
theorem dX12_passes_358 : decode cX12_passes 358 = .ok (.iload 7, 2) := by decide +kernel
theorem dX12_passes_360 : decode cX12_passes 360 = .ok (.ishr, 1) := by decide +kernel
theorem dX12_passes_361 : decode cX12_passes 361 = .ok (.iconst 1, 1) := by decide +kernel
theorem dX12_passes_362 : decode cX12_passes 362 = .ok (.iand, 1) := by decide +kernel
theorem dX12_passes_363 : decode cX12_passes 363 = .ok (.iadd, 1) := by decide +kernel
theorem dX12_passes_364 : decode cX12_passes 364 = .ok (.isub, 1) := by decide +kernel
theorem dX12_passes_365 : decode cX12_passes 365 = .ok (.istore 6, 2) := by decide +kernel
theorem dX12_passes_367 : decode cX12_passes 367 = .ok (.iload 6, 2) := by decide +kernel
theorem dX12_passes_369 : decode cX12_passes 369 = .ok (.ifCond .ge 6, 3) := by decide +kernel
theorem dX12_passes_372 : decode cX12_passes 372 = .ok (.goto 13, 3) := by decide +kernel
theorem dX12_passes_375 : decode cX12_passes 375 = .ok (.aload 4, 2) := by decide +kernel
theorem dX12_passes_377 : decode cX12_passes 377 = .ok (.bipush 7, 2) := by decide +kernel
theorem dX12_passes_379 : decode cX12_passes 379 = .ok (.iload 7, 2) := by decide +kernel
theorem dX12_passes_381 : decode cX12_passes 381 = .ok (.iastore, 1) := by decide +kernel
theorem dX12_passes_382 : decode cX12_passes 382 = .ok (.goto (-80), 3) := by decide +kernel
theorem dX12_passes_385 : decode cX12_passes 385 = .ok (.iinc 3 1, 3) := by decide +kernel
theorem dX12_passes_388 : decode cX12_passes 388 = .ok (.goto (-188), 3) := by decide +kernel
theorem dX12_passes_391 : decode cX12_passes 391 = .ok (.iconst 0, 1) := by decide +kernel
theorem dX12_passes_392 : decode cX12_passes 392 = .ok (.istore_n 3, 1) := by decide +kernel
theorem dX12_passes_393 : decode cX12_passes 393 = .ok (.iload_n 3, 1) := by decide +kernel
theorem dX12_passes_394 : decode cX12_passes 394 = .ok (.bipush 16, 2) := by decide +kernel
theorem dX12_passes_396 : decode cX12_passes 396 = .ok (.if_icmp .ge 388, 3) := by decide +kernel
theorem dX12_passes_399 : decode cX12_passes 399 = .ok (.iload_n 2, 1) := by decide +kernel
theorem dX12_passes_400 : decode cX12_passes 400 = .ok (.ifCond .eq 384, 3) := by decide +kernel
theorem dX12_passes_403 : decode cX12_passes 403 = .ok (.aload_n 0, 1) := by decide +kernel
theorem dX12_passes_404 : decode cX12_passes 404 = .ok (.iconst 0, 1) := by decide +kernel
theorem dX12_passes_405 : decode cX12_passes 405 = .ok (.iload_n 3, 1) := by decide +kernel
theorem dX12_passes_406 : decode cX12_passes 406 = .ok (.invokevirtual 116, 3) := by decide +kernel
theorem dX12_passes_409 : decode cX12_passes 409 = .ok (.ifCond .eq 369, 3) := by decide +kernel
theorem dX12_passes_412 : decode cX12_passes 412 = .ok (.aload_n 0, 1) := by decide +kernel
theorem dX12_passes_413 : decode cX12_passes 413 = .ok (.iconst 1, 1) := by decide +kernel
theorem dX12_passes_414 : decode cX12_passes 414 = .ok (.iload_n 3, 1) := by decide +kernel
theorem dX12_passes_415 : decode cX12_passes 415 = .ok (.invokevirtual 116, 3) := by decide +kernel
theorem dX12_passes_418 : decode cX12_passes 418 = .ok (.ifCond .ne 6, 3) := by decide +kernel
theorem dX12_passes_421 : decode cX12_passes 421 = .ok (.goto 357, 3) := by decide +kernel
theorem dX12_passes_424 : decode cX12_passes 424 = .ok (.iconst 2, 1) := by decide +kernel
theorem dX12_passes_425 : decode cX12_passes 425 = .ok (.newarray .int, 2) := by decide +kernel
theorem dX12_passes_427 : decode cX12_passes 427 = .ok (.astore 4, 2) := by decide +kernel
theorem dX12_passes_429 : decode cX12_passes 429 = .ok (.iconst 0, 1) := by decide +kernel
theorem dX12_passes_430 : decode cX12_passes 430 = .ok (.istore 5, 2) := by decide +kernel
theorem dX12_passes_432 : decode cX12_passes 432 = .ok (.iload 5, 2) := by decide +kernel
theorem dX12_passes_434 : decode cX12_passes 434 = .ok (.aload_n 0, 1) := by decide +kernel
theorem dX12_passes_435 : decode cX12_passes 435 = .ok (.getfield 50, 3) := by decide +kernel
theorem dX12_passes_438 : decode cX12_passes 438 = .ok (.if_icmp .ge 61, 3) := by decide +kernel
theorem dX12_passes_441 : decode cX12_passes 441 = .ok (.aload_n 0, 1) := by decide +kernel
theorem dX12_passes_442 : decode cX12_passes 442 = .ok (.getfield 30, 3) := by decide +kernel
theorem dX12_passes_445 : decode cX12_passes 445 = .ok (.iload 5, 2) := by decide +kernel
theorem dX12_passes_447 : decode cX12_passes 447 = .ok (.aaload, 1) := by decide +kernel
theorem dX12_passes_448 : decode cX12_passes 448 = .ok (.bipush 6, 2) := by decide +kernel
theorem dX12_passes_450 : decode cX12_passes 450 = .ok (.iaload, 1) := by decide +kernel
theorem dX12_passes_451 : decode cX12_passes 451 = .ok (.iconst 1, 1) := by decide +kernel
theorem dX12_passes_452 : decode cX12_passes 452 = .ok (.if_icmp .ne 41, 3) := by decide +kernel
theorem dX12_passes_455 : decode cX12_passes 455 = .ok (.aload_n 0, 1) := by decide +kernel
theorem dX12_passes_456 : decode cX12_passes 456 = .ok (.getfield 30, 3) := by decide +kernel
theorem dX12_passes_459 : decode cX12_passes 459 = .ok (.iload 5, 2) := by decide +kernel
theorem dX12_passes_461 : decode cX12_passes 461 = .ok (.aaload, 1) := by decide +kernel
theorem dX12_passes_462 : decode cX12_passes 462 = .ok (.bipush 7, 2) := by decide +kernel
theorem dX12_passes_464 : decode cX12_passes 464 = .ok (.iaload, 1) := by decide +kernel
theorem dX12_passes_465 : decode cX12_passes 465 = .ok (.iload_n 3, 1) := by decide +kernel
theorem dX12_passes_466 : decode cX12_passes 466 = .ok (.if_icmp .ne 27, 3) := by decide +kernel
theorem dX12_passes_469 : decode cX12_passes 469 = .ok (.aload 4, 2) := by decide +kernel
theorem dX12_passes_471 : decode cX12_passes 471 = .ok (.aload_n 0, 1) := by decide +kernel
theorem dX12_passes_472 : decode cX12_passes 472 = .ok (.getfield 30, 3) := by decide +kernel
theorem dX12_passes_475 : decode cX12_passes 475 = .ok (.iload 5, 2) := by decide +kernel
theorem dX12_passes_477 : decode cX12_passes 477 = .ok (.aaload, 1) := by decide +kernel
theorem dX12_passes_478 : decode cX12_passes 478 = .ok (.iconst 0, 1) := by decide +kernel
theorem dX12_passes_479 : decode cX12_passes 479 = .ok (.iaload, 1) := by decide +kernel
theorem dX12_passes_480 : decode cX12_passes 480 = .ok (.dup2, 1) := by decide +kernel
theorem dX12_passes_481 : decode cX12_passes 481 = .ok (.iaload, 1) := by decide +kernel
theorem dX12_passes_482 : decode cX12_passes 482 = .ok (.aload_n 0, 1) := by decide +kernel
theorem dX12_passes_483 : decode cX12_passes 483 = .ok (.getfield 30, 3) := by decide +kernel
theorem dX12_passes_486 : decode cX12_passes 486 = .ok (.iload 5, 2) := by decide +kernel
theorem dX12_passes_488 : decode cX12_passes 488 = .ok (.aaload, 1) := by decide +kernel
theorem dX12_passes_489 : decode cX12_passes 489 = .ok (.iconst 3, 1) := by decide +kernel
theorem dX12_passes_490 : decode cX12_passes 490 = .ok (.iaload, 1) := by decide +kernel
theorem dX12_passes_491 : decode cX12_passes 491 = .ok (.iadd, 1) := by decide +kernel
theorem dX12_passes_492 : decode cX12_passes 492 = .ok (.iastore, 1) := by decide +kernel
theorem dX12_passes_493 : decode cX12_passes 493 = .ok (.iinc 5 1, 3) := by decide +kernel
theorem dX12_passes_496 : decode cX12_passes 496 = .ok (.goto (-64), 3) := by decide +kernel
theorem dX12_passes_499 : decode cX12_passes 499 = .ok (.aload 4, 2) := by decide +kernel
theorem dX12_passes_501 : decode cX12_passes 501 = .ok (.iconst 0, 1) := by decide +kernel
theorem dX12_passes_502 : decode cX12_passes 502 = .ok (.iaload, 1) := by decide +kernel
theorem dX12_passes_503 : decode cX12_passes 503 = .ok (.aload 4, 2) := by decide +kernel
theorem dX12_passes_505 : decode cX12_passes 505 = .ok (.iconst 1, 1) := by decide +kernel
theorem dX12_passes_506 : decode cX12_passes 506 = .ok (.iaload, 1) := by decide +kernel
theorem dX12_passes_507 : decode cX12_passes 507 = .ok (.if_icmp .ge 7, 3) := by decide +kernel
theorem dX12_passes_510 : decode cX12_passes 510 = .ok (.iconst 0, 1) := by decide +kernel
theorem dX12_passes_511 : decode cX12_passes 511 = .ok (.goto 19, 3) := by decide +kernel
theorem dX12_passes_514 : decode cX12_passes 514 = .ok (.aload 4, 2) := by decide +kernel
theorem dX12_passes_516 : decode cX12_passes 516 = .ok (.iconst 1, 1) := by decide +kernel
theorem dX12_passes_517 : decode cX12_passes 517 = .ok (.iaload, 1) := by decide +kernel
theorem dX12_passes_518 : decode cX12_passes 518 = .ok (.aload 4, 2) := by decide +kernel
theorem dX12_passes_520 : decode cX12_passes 520 = .ok (.iconst 0, 1) := by decide +kernel
theorem dX12_passes_521 : decode cX12_passes 521 = .ok (.iaload, 1) := by decide +kernel
theorem dX12_passes_522 : decode cX12_passes 522 = .ok (.if_icmp .ge 7, 3) := by decide +kernel
theorem dX12_passes_525 : decode cX12_passes 525 = .ok (.iconst 1, 1) := by decide +kernel
theorem dX12_passes_526 : decode cX12_passes 526 = .ok (.goto 4, 3) := by decide +kernel
theorem dX12_passes_529 : decode cX12_passes 529 = .ok (.iconst (-1), 1) := by decide +kernel
theorem dX12_passes_530 : decode cX12_passes 530 = .ok (.istore 5, 2) := by decide +kernel
theorem dX12_passes_532 : decode cX12_passes 532 = .ok (.iconst (-1), 1) := by decide +kernel
theorem dX12_passes_533 : decode cX12_passes 533 = .ok (.istore 6, 2) := by decide +kernel
theorem dX12_passes_535 : decode cX12_passes 535 = .ok (.aload_n 0, 1) := by decide +kernel
theorem dX12_passes_536 : decode cX12_passes 536 = .ok (.getfield 50, 3) := by decide +kernel
theorem dX12_passes_539 : decode cX12_passes 539 = .ok (.iconst 1, 1) := by decide +kernel
theorem dX12_passes_540 : decode cX12_passes 540 = .ok (.isub, 1) := by decide +kernel
theorem dX12_passes_541 : decode cX12_passes 541 = .ok (.istore 7, 2) := by decide +kernel
theorem dX12_passes_543 : decode cX12_passes 543 = .ok (.iload 7, 2) := by decide +kernel
theorem dX12_passes_545 : decode cX12_passes 545 = .ok (.ifCond .lt 70, 3) := by decide +kernel
theorem dX12_passes_548 : decode cX12_passes 548 = .ok (.iload 5, 2) := by decide +kernel
theorem dX12_passes_550 : decode cX12_passes 550 = .ok (.ifCond .lt 65, 3) := by decide +kernel
theorem dX12_passes_553 : decode cX12_passes 553 = .ok (.aload_n 0, 1) := by decide +kernel
theorem dX12_passes_554 : decode cX12_passes 554 = .ok (.iload 7, 2) := by decide +kernel
theorem dX12_passes_556 : decode cX12_passes 556 = .ok (.iload 5, 2) := by decide +kernel
theorem dX12_passes_558 : decode cX12_passes 558 = .ok (.iconst 1, 1) := by decide +kernel
theorem dX12_passes_559 : decode cX12_passes 559 = .ok (.invokevirtual 93, 3) := by decide +kernel
theorem dX12_passes_562 : decode cX12_passes 562 = .ok (.ifCond .eq 47, 3) := by decide +kernel
theorem dX12_passes_565 : decode cX12_passes 565 = .ok (.aload_n 0, 1) := by decide +kernel
theorem dX12_passes_566 : decode cX12_passes 566 = .ok (.getfield 30, 3) := by decide +kernel
theorem dX12_passes_569 : decode cX12_passes 569 = .ok (.iload 7, 2) := by decide +kernel
theorem dX12_passes_571 : decode cX12_passes 571 = .ok (.aaload, 1) := by decide +kernel
theorem dX12_passes_572 : decode cX12_passes 572 = .ok (.bipush 7, 2) := by decide +kernel
theorem dX12_passes_574 : decode cX12_passes 574 = .ok (.iaload, 1) := by decide +kernel
theorem dX12_passes_575 : decode cX12_passes 575 = .ok (.iload_n 3, 1) := by decide +kernel
theorem dX12_passes_576 : decode cX12_passes 576 = .ok (.if_icmp .ne 33, 3) := by decide +kernel
theorem dX12_passes_579 : decode cX12_passes 579 = .ok (.iload 6, 2) := by decide +kernel
theorem dX12_passes_581 : decode cX12_passes 581 = .ok (.ifCond .lt 24, 3) := by decide +kernel
theorem dX12_passes_584 : decode cX12_passes 584 = .ok (.aload_n 0, 1) := by decide +kernel
theorem dX12_passes_585 : decode cX12_passes 585 = .ok (.getfield 30, 3) := by decide +kernel
theorem dX12_passes_588 : decode cX12_passes 588 = .ok (.iload 7, 2) := by decide +kernel
theorem dX12_passes_590 : decode cX12_passes 590 = .ok (.aaload, 1) := by decide +kernel
theorem dX12_passes_591 : decode cX12_passes 591 = .ok (.iconst 1, 1) := by decide +kernel
theorem dX12_passes_592 : decode cX12_passes 592 = .ok (.iaload, 1) := by decide +kernel
theorem dX12_passes_593 : decode cX12_passes 593 = .ok (.aload_n 0, 1) := by decide +kernel
theorem dX12_passes_594 : decode cX12_passes 594 = .ok (.getfield 30, 3) := by decide +kernel
theorem dX12_passes_597 : decode cX12_passes 597 = .ok (.iload 6, 2) := by decide +kernel
theorem dX12_passes_599 : decode cX12_passes 599 = .ok (.aaload, 1) := by decide +kernel
theorem dX12_passes_600 : decode cX12_passes 600 = .ok (.iconst 1, 1) := by decide +kernel
theorem dX12_passes_601 : decode cX12_passes 601 = .ok (.iaload, 1) := by decide +kernel
theorem dX12_passes_602 : decode cX12_passes 602 = .ok (.if_icmp .gt 7, 3) := by decide +kernel
theorem dX12_passes_605 : decode cX12_passes 605 = .ok (.iload 7, 2) := by decide +kernel
theorem dX12_passes_607 : decode cX12_passes 607 = .ok (.istore 6, 2) := by decide +kernel
theorem dX12_passes_609 : decode cX12_passes 609 = .ok (.iinc 7 (-1), 3) := by decide +kernel
theorem dX12_passes_612 : decode cX12_passes 612 = .ok (.goto (-69), 3) := by decide +kernel
theorem dX12_passes_615 : decode cX12_passes 615 = .ok (.iload 6, 2) := by decide +kernel
theorem dX12_passes_617 : decode cX12_passes 617 = .ok (.ifCond .lt 22, 3) := by decide +kernel
theorem dX12_passes_620 : decode cX12_passes 620 = .ok (.aload_n 0, 1) := by decide +kernel
theorem dX12_passes_621 : decode cX12_passes 621 = .ok (.iconst 1, 1) := by decide +kernel
theorem dX12_passes_622 : decode cX12_passes 622 = .ok (.iload 6, 2) := by decide +kernel
theorem dX12_passes_624 : decode cX12_passes 624 = .ok (.iload_n 3, 1) := by decide +kernel
theorem dX12_passes_625 : decode cX12_passes 625 = .ok (.iload_n 1, 1) := by decide +kernel
theorem dX12_passes_626 : decode cX12_passes 626 = .ok (.invokevirtual 103, 3) := by decide +kernel
theorem dX12_passes_629 : decode cX12_passes 629 = .ok (.aload_n 0, 1) := by decide +kernel
theorem dX12_passes_630 : decode cX12_passes 630 = .ok (.dup, 1) := by decide +kernel
theorem dX12_passes_631 : decode cX12_passes 631 = .ok (.getfield 120, 3) := by decide +kernel
theorem dX12_passes_634 : decode cX12_passes 634 = .ok (.iconst 1, 1) := by decide +kernel
theorem dX12_passes_635 : decode cX12_passes 635 = .ok (.iadd, 1) := by decide +kernel
theorem dX12_passes_636 : decode cX12_passes 636 = .ok (.putfield 120, 3) := by decide +kernel
theorem dX12_passes_639 : decode cX12_passes 639 = .ok (.iconst 0, 1) := by decide +kernel
theorem dX12_passes_640 : decode cX12_passes 640 = .ok (.istore 7, 2) := by decide +kernel
theorem dX12_passes_642 : decode cX12_passes 642 = .ok (.iload 7, 2) := by decide +kernel
theorem dX12_passes_644 : decode cX12_passes 644 = .ok (.aload_n 0, 1) := by decide +kernel
theorem dX12_passes_645 : decode cX12_passes 645 = .ok (.getfield 50, 3) := by decide +kernel
theorem dX12_passes_648 : decode cX12_passes 648 = .ok (.if_icmp .ge 130, 3) := by decide +kernel
theorem dX12_passes_651 : decode cX12_passes 651 = .ok (.aload_n 0, 1) := by decide +kernel
theorem dX12_passes_652 : decode cX12_passes 652 = .ok (.getfield 30, 3) := by decide +kernel
theorem dX12_passes_655 : decode cX12_passes 655 = .ok (.iload 7, 2) := by decide +kernel
theorem dX12_passes_657 : decode cX12_passes 657 = .ok (.aaload, 1) := by decide +kernel
theorem dX12_passes_658 : decode cX12_passes 658 = .ok (.astore 8, 2) := by decide +kernel
theorem dX12_passes_660 : decode cX12_passes 660 = .ok (.aload 8, 2) := by decide +kernel
theorem dX12_passes_662 : decode cX12_passes 662 = .ok (.bipush 6, 2) := by decide +kernel
theorem dX12_passes_664 : decode cX12_passes 664 = .ok (.iaload, 1) := by decide +kernel
theorem dX12_passes_665 : decode cX12_passes 665 = .ok (.iconst 1, 1) := by decide +kernel
theorem dX12_passes_666 : decode cX12_passes 666 = .ok (.if_icmp .ne 106, 3) := by decide +kernel
theorem dX12_passes_669 : decode cX12_passes 669 = .ok (.aload 8, 2) := by decide +kernel
theorem dX12_passes_671 : decode cX12_passes 671 = .ok (.bipush 7, 2) := by decide +kernel
theorem dX12_passes_673 : decode cX12_passes 673 = .ok (.iaload, 1) := by decide +kernel
theorem dX12_passes_674 : decode cX12_passes 674 = .ok (.iload_n 3, 1) := by decide +kernel
theorem dX12_passes_675 : decode cX12_passes 675 = .ok (.if_icmp .eq 6, 3) := by decide +kernel
theorem dX12_passes_678 : decode cX12_passes 678 = .ok (.goto 94, 3) := by decide +kernel
theorem dX12_passes_681 : decode cX12_passes 681 = .ok (.iload 5, 2) := by decide +kernel
theorem dX12_passes_683 : decode cX12_passes 683 = .ok (.ifCond .ge 14, 3) := by decide +kernel
theorem dX12_passes_686 : decode cX12_passes 686 = .ok (.aload 8, 2) := by decide +kernel
theorem dX12_passes_688 : decode cX12_passes 688 = .ok (.iconst 3, 1) := by decide +kernel
theorem dX12_passes_689 : decode cX12_passes 689 = .ok (.dup2, 1) := by decide +kernel
theorem dX12_passes_690 : decode cX12_passes 690 = .ok (.iaload, 1) := by decide +kernel
theorem dX12_passes_691 : decode cX12_passes 691 = .ok (.iconst 2, 1) := by decide +kernel
theorem dX12_passes_692 : decode cX12_passes 692 = .ok (.idiv, 1) := by decide +kernel
theorem dX12_passes_693 : decode cX12_passes 693 = .ok (.iastore, 1) := by decide +kernel
theorem dX12_passes_694 : decode cX12_passes 694 = .ok (.goto 78, 3) := by decide +kernel
theorem dX12_passes_697 : decode cX12_passes 697 = .ok (.aload 8, 2) := by decide +kernel
theorem dX12_passes_699 : decode cX12_passes 699 = .ok (.iconst 0, 1) := by decide +kernel
theorem dX12_passes_700 : decode cX12_passes 700 = .ok (.iaload, 1) := by decide +kernel
theorem dX12_passes_701 : decode cX12_passes 701 = .ok (.iload 5, 2) := by decide +kernel
theorem dX12_passes_703 : decode cX12_passes 703 = .ok (.if_icmp .eq 21, 3) := by decide +kernel
theorem dX12_passes_706 : decode cX12_passes 706 = .ok (.aload 8, 2) := by decide +kernel
theorem dX12_passes_708 : decode cX12_passes 708 = .ok (.iconst 3, 1) := by decide +kernel
theorem dX12_passes_709 : decode cX12_passes 709 = .ok (.iconst 0, 1) := by decide +kernel
theorem dX12_passes_710 : decode cX12_passes 710 = .ok (.aload 8, 2) := by decide +kernel
theorem dX12_passes_712 : decode cX12_passes 712 = .ok (.iconst 3, 1) := by decide +kernel
theorem dX12_passes_713 : decode cX12_passes 713 = .ok (.iaload, 1) := by decide +kernel
theorem dX12_passes_714 : decode cX12_passes 714 = .ok (.bipush 10, 2) := by decide +kernel
theorem dX12_passes_716 : decode cX12_passes 716 = .ok (.isub, 1) := by decide +kernel
theorem dX12_passes_717 : decode cX12_passes 717 = .ok (.invokestatic 123, 3) := by decide +kernel
theorem dX12_passes_720 : decode cX12_passes 720 = .ok (.iastore, 1) := by decide +kernel
theorem dX12_passes_721 : decode cX12_passes 721 = .ok (.goto 51, 3) := by decide +kernel
theorem dX12_passes_724 : decode cX12_passes 724 = .ok (.iload 7, 2) := by decide +kernel
theorem dX12_passes_726 : decode cX12_passes 726 = .ok (.iload 6, 2) := by decide +kernel
theorem dX12_passes_728 : decode cX12_passes 728 = .ok (.if_icmp .ne 21, 3) := by decide +kernel
theorem dX12_passes_731 : decode cX12_passes 731 = .ok (.aload 8, 2) := by decide +kernel
theorem dX12_passes_733 : decode cX12_passes 733 = .ok (.bipush 6, 2) := by decide +kernel
theorem dX12_passes_735 : decode cX12_passes 735 = .ok (.iconst 2, 1) := by decide +kernel
theorem dX12_passes_736 : decode cX12_passes 736 = .ok (.iastore, 1) := by decide +kernel
theorem dX12_passes_737 : decode cX12_passes 737 = .ok (.aload 8, 2) := by decide +kernel
theorem dX12_passes_739 : decode cX12_passes 739 = .ok (.bipush 8, 2) := by decide +kernel
theorem dX12_passes_741 : decode cX12_passes 741 = .ok (.aload_n 0, 1) := by decide +kernel
theorem dX12_passes_742 : decode cX12_passes 742 = .ok (.getfield 44, 3) := by decide +kernel
theorem dX12_passes_745 : decode cX12_passes 745 = .ok (.iastore, 1) := by decide +kernel
theorem dX12_passes_746 : decode cX12_passes 746 = .ok (.goto 26, 3) := by decide +kernel
theorem dX12_passes_749 : decode cX12_passes 749 = .ok (.aload 8, 2) := by decide +kernel
theorem dX12_passes_751 : decode cX12_passes 751 = .ok (.bipush 6, 2) := by decide +kernel
theorem dX12_passes_753 : decode cX12_passes 753 = .ok (.iconst 0, 1) := by decide +kernel
theorem dX12_passes_754 : decode cX12_passes 754 = .ok (.iastore, 1) := by decide +kernel
theorem dX12_passes_755 : decode cX12_passes 755 = .ok (.aload 8, 2) := by decide +kernel
theorem dX12_passes_757 : decode cX12_passes 757 = .ok (.iconst 3, 1) := by decide +kernel
theorem dX12_passes_758 : decode cX12_passes 758 = .ok (.dup2, 1) := by decide +kernel
theorem dX12_passes_759 : decode cX12_passes 759 = .ok (.iaload, 1) := by decide +kernel
theorem dX12_passes_760 : decode cX12_passes 760 = .ok (.iconst 2, 1) := by decide +kernel
theorem dX12_passes_761 : decode cX12_passes 761 = .ok (.idiv, 1) := by decide +kernel
theorem dX12_passes_762 : decode cX12_passes 762 = .ok (.iastore, 1) := by decide +kernel
theorem dX12_passes_763 : decode cX12_passes 763 = .ok (.aload_n 0, 1) := by decide +kernel
theorem dX12_passes_764 : decode cX12_passes 764 = .ok (.iconst 2, 1) := by decide +kernel
theorem dX12_passes_765 : decode cX12_passes 765 = .ok (.iload 7, 2) := by decide +kernel
theorem dX12_passes_767 : decode cX12_passes 767 = .ok (.iload_n 3, 1) := by decide +kernel
theorem dX12_passes_768 : decode cX12_passes 768 = .ok (.iload_n 1, 1) := by decide +kernel
theorem dX12_passes_769 : decode cX12_passes 769 = .ok (.invokevirtual 103, 3) := by decide +kernel
theorem dX12_passes_772 : decode cX12_passes 772 = .ok (.iinc 7 1, 3) := by decide +kernel
theorem dX12_passes_775 : decode cX12_passes 775 = .ok (.goto (-133), 3) := by decide +kernel
theorem dX12_passes_778 : decode cX12_passes 778 = .ok (.iinc 3 1, 3) := by decide +kernel
theorem dX12_passes_781 : decode cX12_passes 781 = .ok (.goto (-388), 3) := by decide +kernel
theorem dX12_passes_784 : decode cX12_passes 784 = .ok (.iload_n 2, 1) := by decide +kernel
theorem dX12_passes_785 : decode cX12_passes 785 = .ok (.ifCond .eq 46, 3) := by decide +kernel
theorem dX12_passes_788 : decode cX12_passes 788 = .ok (.aload_n 0, 1) := by decide +kernel
theorem dX12_passes_789 : decode cX12_passes 789 = .ok (.iconst 0, 1) := by decide +kernel
theorem dX12_passes_790 : decode cX12_passes 790 = .ok (.bipush 15, 2) := by decide +kernel
theorem dX12_passes_792 : decode cX12_passes 792 = .ok (.invokevirtual 116, 3) := by decide +kernel
theorem dX12_passes_795 : decode cX12_passes 795 = .ok (.ifCond .eq 13, 3) := by decide +kernel
theorem dX12_passes_798 : decode cX12_passes 798 = .ok (.aload_n 0, 1) := by decide +kernel
theorem dX12_passes_799 : decode cX12_passes 799 = .ok (.iconst 1, 1) := by decide +kernel
theorem dX12_passes_800 : decode cX12_passes 800 = .ok (.bipush 15, 2) := by decide +kernel
theorem dX12_passes_802 : decode cX12_passes 802 = .ok (.invokevirtual 116, 3) := by decide +kernel
theorem dX12_passes_805 : decode cX12_passes 805 = .ok (.ifCond .eq 21, 3) := by decide +kernel
theorem dX12_passes_808 : decode cX12_passes 808 = .ok (.aload_n 0, 1) := by decide +kernel
theorem dX12_passes_809 : decode cX12_passes 809 = .ok (.iconst 1, 1) := by decide +kernel
theorem dX12_passes_810 : decode cX12_passes 810 = .ok (.iconst 0, 1) := by decide +kernel
theorem dX12_passes_811 : decode cX12_passes 811 = .ok (.invokevirtual 116, 3) := by decide +kernel
theorem dX12_passes_814 : decode cX12_passes 814 = .ok (.ifCond .eq 17, 3) := by decide +kernel
theorem dX12_passes_817 : decode cX12_passes 817 = .ok (.aload_n 0, 1) := by decide +kernel
theorem dX12_passes_818 : decode cX12_passes 818 = .ok (.iconst 0, 1) := by decide +kernel
theorem dX12_passes_819 : decode cX12_passes 819 = .ok (.iconst 0, 1) := by decide +kernel
theorem dX12_passes_820 : decode cX12_passes 820 = .ok (.invokevirtual 116, 3) := by decide +kernel
theorem dX12_passes_823 : decode cX12_passes 823 = .ok (.ifCond .ne 8, 3) := by decide +kernel
theorem dX12_passes_826 : decode cX12_passes 826 = .ok (.aload_n 0, 1) := by decide +kernel
theorem dX12_passes_827 : decode cX12_passes 827 = .ok (.iconst 0, 1) := by decide +kernel
theorem dX12_passes_828 : decode cX12_passes 828 = .ok (.putfield 7, 3) := by decide +kernel
theorem dX12_passes_831 : decode cX12_passes 831 = .ok (.iconst 0, 1) := by decide +kernel
theorem dX12_passes_832 : decode cX12_passes 832 = .ok (.istore_n 3, 1) := by decide +kernel
theorem dX12_passes_833 : decode cX12_passes 833 = .ok (.iload_n 3, 1) := by decide +kernel
theorem dX12_passes_834 : decode cX12_passes 834 = .ok (.aload_n 0, 1) := by decide +kernel
theorem dX12_passes_835 : decode cX12_passes 835 = .ok (.getfield 50, 3) := by decide +kernel
theorem dX12_passes_838 : decode cX12_passes 838 = .ok (.if_icmp .ge 97, 3) := by decide +kernel
theorem dX12_passes_841 : decode cX12_passes 841 = .ok (.aload_n 0, 1) := by decide +kernel
theorem dX12_passes_842 : decode cX12_passes 842 = .ok (.getfield 44, 3) := by decide +kernel
theorem dX12_passes_845 : decode cX12_passes 845 = .ok (.bipush 7, 2) := by decide +kernel
theorem dX12_passes_847 : decode cX12_passes 847 = .ok (.irem, 1) := by decide +kernel
theorem dX12_passes_848 : decode cX12_passes 848 = .ok (.ifCond .ne 87, 3) := by decide +kernel
theorem dX12_passes_851 : decode cX12_passes 851 = .ok (.aload_n 0, 1) := by decide +kernel
theorem dX12_passes_852 : decode cX12_passes 852 = .ok (.getfield 30, 3) := by decide +kernel
theorem dX12_passes_855 : decode cX12_passes 855 = .ok (.iload_n 3, 1) := by decide +kernel
theorem dX12_passes_856 : decode cX12_passes 856 = .ok (.aaload, 1) := by decide +kernel
theorem dX12_passes_857 : decode cX12_passes 857 = .ok (.bipush 6, 2) := by decide +kernel
theorem dX12_passes_859 : decode cX12_passes 859 = .ok (.iaload, 1) := by decide +kernel
theorem dX12_passes_860 : decode cX12_passes 860 = .ok (.ifCond .ne 69, 3) := by decide +kernel
theorem dX12_passes_863 : decode cX12_passes 863 = .ok (.iconst 0, 1) := by decide +kernel
theorem dX12_passes_864 : decode cX12_passes 864 = .ok (.istore 4, 2) := by decide +kernel
theorem dX12_passes_866 : decode cX12_passes 866 = .ok (.iload 4, 2) := by decide +kernel
theorem dX12_passes_868 : decode cX12_passes 868 = .ok (.aload_n 0, 1) := by decide +kernel
theorem dX12_passes_869 : decode cX12_passes 869 = .ok (.getfield 50, 3) := by decide +kernel
theorem dX12_passes_872 : decode cX12_passes 872 = .ok (.if_icmp .ge 57, 3) := by decide +kernel
theorem dX12_passes_875 : decode cX12_passes 875 = .ok (.aload_n 0, 1) := by decide +kernel
theorem dX12_passes_876 : decode cX12_passes 876 = .ok (.getfield 23, 3) := by decide +kernel
theorem dX12_passes_879 : decode cX12_passes 879 = .ok (.iload_n 3, 1) := by decide +kernel
theorem dX12_passes_880 : decode cX12_passes 880 = .ok (.iaload, 1) := by decide +kernel
theorem dX12_passes_881 : decode cX12_passes 881 = .ok (.iload 4, 2) := by decide +kernel
theorem dX12_passes_883 : decode cX12_passes 883 = .ok (.ishr, 1) := by decide +kernel
theorem dX12_passes_884 : decode cX12_passes 884 = .ok (.iconst 1, 1) := by decide +kernel
theorem dX12_passes_885 : decode cX12_passes 885 = .ok (.iand, 1) := by decide +kernel
theorem dX12_passes_886 : decode cX12_passes 886 = .ok (.iconst 1, 1) := by decide +kernel
theorem dX12_passes_887 : decode cX12_passes 887 = .ok (.if_icmp .ne 36, 3) := by decide +kernel
theorem dX12_passes_890 : decode cX12_passes 890 = .ok (.aload_n 0, 1) := by decide +kernel
theorem dX12_passes_891 : decode cX12_passes 891 = .ok (.getfield 30, 3) := by decide +kernel
theorem dX12_passes_894 : decode cX12_passes 894 = .ok (.iload 4, 2) := by decide +kernel
theorem dX12_passes_896 : decode cX12_passes 896 = .ok (.aaload, 1) := by decide +kernel
theorem dX12_passes_897 : decode cX12_passes 897 = .ok (.bipush 6, 2) := by decide +kernel
theorem dX12_passes_899 : decode cX12_passes 899 = .ok (.iaload, 1) := by decide +kernel
theorem dX12_passes_900 : decode cX12_passes 900 = .ok (.ifCond .ne 23, 3) := by decide +kernel
theorem dX12_passes_903 : decode cX12_passes 903 = .ok (.aload_n 0, 1) := by decide +kernel
theorem dX12_passes_904 : decode cX12_passes 904 = .ok (.getfield 30, 3) := by decide +kernel
theorem dX12_passes_907 : decode cX12_passes 907 = .ok (.iload 4, 2) := by decide +kernel
theorem dX12_passes_909 : decode cX12_passes 909 = .ok (.aaload, 1) := by decide +kernel
theorem dX12_passes_910 : decode cX12_passes 910 = .ok (.iconst 4, 1) := by decide +kernel
theorem dX12_passes_911 : decode cX12_passes 911 = .ok (.dup2, 1) := by decide +kernel
theorem dX12_passes_912 : decode cX12_passes 912 = .ok (.iaload, 1) := by decide +kernel
theorem dX12_passes_913 : decode cX12_passes 913 = .ok (.aload_n 0, 1) := by decide +kernel
theorem dX12_passes_914 : decode cX12_passes 914 = .ok (.getfield 30, 3) := by decide +kernel
theorem dX12_passes_917 : decode cX12_passes 917 = .ok (.iload_n 3, 1) := by decide +kernel
theorem dX12_passes_918 : decode cX12_passes 918 = .ok (.aaload, 1) := by decide +kernel
theorem dX12_passes_919 : decode cX12_passes 919 = .ok (.iconst 4, 1) := by decide +kernel
theorem dX12_passes_920 : decode cX12_passes 920 = .ok (.iaload, 1) := by decide +kernel
theorem dX12_passes_921 : decode cX12_passes 921 = .ok (.ior, 1) := by decide +kernel
theorem dX12_passes_922 : decode cX12_passes 922 = .ok (.iastore, 1) := by decide +kernel
theorem dX12_passes_923 : decode cX12_passes 923 = .ok (.iinc 4 1, 3) := by decide +kernel
theorem dX12_passes_926 : decode cX12_passes 926 = .ok (.goto (-60), 3) := by decide +kernel
theorem dX12_passes_929 : decode cX12_passes 929 = .ok (.iinc 3 1, 3) := by decide +kernel
theorem dX12_passes_932 : decode cX12_passes 932 = .ok (.goto (-99), 3) := by decide +kernel
theorem dX12_passes_935 : decode cX12_passes 935 = .ok (.iconst 0, 1) := by decide +kernel
theorem dX12_passes_936 : decode cX12_passes 936 = .ok (.istore_n 3, 1) := by decide +kernel
theorem dX12_passes_937 : decode cX12_passes 937 = .ok (.iload_n 3, 1) := by decide +kernel
theorem dX12_passes_938 : decode cX12_passes 938 = .ok (.aload_n 0, 1) := by decide +kernel
theorem dX12_passes_939 : decode cX12_passes 939 = .ok (.getfield 50, 3) := by decide +kernel
theorem dX12_passes_942 : decode cX12_passes 942 = .ok (.if_icmp .ge 80, 3) := by decide +kernel
theorem dX12_passes_945 : decode cX12_passes 945 = .ok (.iload_n 1, 1) := by decide +kernel
theorem dX12_passes_946 : decode cX12_passes 946 = .ok (.ifCond .eq 76, 3) := by decide +kernel
theorem dX12_passes_949 : decode cX12_passes 949 = .ok (.aload_n 0, 1) := by decide +kernel
theorem dX12_passes_950 : decode cX12_passes 950 = .ok (.getfield 30, 3) := by decide +kernel
theorem dX12_passes_953 : decode cX12_passes 953 = .ok (.iload_n 3, 1) := by decide +kernel
theorem dX12_passes_954 : decode cX12_passes 954 = .ok (.aaload, 1) := by decide +kernel
theorem dX12_passes_955 : decode cX12_passes 955 = .ok (.iconst 4, 1) := by decide +kernel
theorem dX12_passes_956 : decode cX12_passes 956 = .ok (.iaload, 1) := by decide +kernel
theorem dX12_passes_957 : decode cX12_passes 957 = .ok (.ifCond .eq 59, 3) := by decide +kernel
theorem dX12_passes_960 : decode cX12_passes 960 = .ok (.aload_n 0, 1) := by decide +kernel
theorem dX12_passes_961 : decode cX12_passes 961 = .ok (.sipush 1000, 3) := by decide +kernel
theorem dX12_passes_964 : decode cX12_passes 964 = .ok (.invokevirtual 126, 3) := by decide +kernel
theorem dX12_passes_967 : decode cX12_passes 967 = .ok (.aload_n 0, 1) := by decide +kernel
theorem dX12_passes_968 : decode cX12_passes 968 = .ok (.iconst 3, 1) := by decide +kernel
theorem dX12_passes_969 : decode cX12_passes 969 = .ok (.iload_n 3, 1) := by decide +kernel
theorem dX12_passes_970 : decode cX12_passes 970 = .ok (.invokevirtual 89, 3) := by decide +kernel
theorem dX12_passes_973 : decode cX12_passes 973 = .ok (.if_icmp .lt 6, 3) := by decide +kernel
theorem dX12_passes_976 : decode cX12_passes 976 = .ok (.goto 40, 3) := by decide +kernel
theorem dX12_passes_979 : decode cX12_passes 979 = .ok (.aload_n 0, 1) := by decide +kernel
theorem dX12_passes_980 : decode cX12_passes 980 = .ok (.getfield 30, 3) := by decide +kernel
theorem dX12_passes_983 : decode cX12_passes 983 = .ok (.iload_n 3, 1) := by decide +kernel
theorem dX12_passes_984 : decode cX12_passes 984 = .ok (.aaload, 1) := by decide +kernel
theorem dX12_passes_985 : decode cX12_passes 985 = .ok (.iconst 4, 1) := by decide +kernel
theorem dX12_passes_986 : decode cX12_passes 986 = .ok (.iaload, 1) := by decide +kernel
theorem dX12_passes_987 : decode cX12_passes 987 = .ok (.invokestatic 129, 3) := by decide +kernel
theorem dX12_passes_990 : decode cX12_passes 990 = .ok (.istore 4, 2) := by decide +kernel
theorem dX12_passes_992 : decode cX12_passes 992 = .ok (.aload_n 0, 1) := by decide +kernel
theorem dX12_passes_993 : decode cX12_passes 993 = .ok (.getfield 30, 3) := by decide +kernel
theorem dX12_passes_996 : decode cX12_passes 996 = .ok (.iload_n 3, 1) := by decide +kernel
theorem dX12_passes_997 : decode cX12_passes 997 = .ok (.aaload, 1) := by decide +kernel
theorem dX12_passes_998 : decode cX12_passes 998 = .ok (.iconst 4, 1) := by decide +kernel
theorem dX12_passes_999 : decode cX12_passes 999 = .ok (.dup2, 1) := by decide +kernel
theorem dX12_passes_1000 : decode cX12_passes 1000 = .ok (.iaload, 1) := by decide +kernel
theorem dX12_passes_1001 : decode cX12_passes 1001 = .ok (.iconst 1, 1) := by decide +kernel
theorem dX12_passes_1002 : decode cX12_passes 1002 = .ok (.iload 4, 2) := by decide +kernel
theorem dX12_passes_1004 : decode cX12_passes 1004 = .ok (.ishl, 1) := by decide +kernel
theorem dX12_passes_1005 : decode cX12_passes 1005 = .ok (.ixor, 1) := by decide +kernel
theorem dX12_passes_1006 : decode cX12_passes 1006 = .ok (.iastore, 1) := by decide +kernel
theorem dX12_passes_1007 : decode cX12_passes 1007 = .ok (.aload_n 0, 1) := by decide +kernel
theorem dX12_passes_1008 : decode cX12_passes 1008 = .ok (.iconst 3, 1) := by decide +kernel
theorem dX12_passes_1009 : decode cX12_passes 1009 = .ok (.iload_n 3, 1) := by decide +kernel
theorem dX12_passes_1010 : decode cX12_passes 1010 = .ok (.iload 4, 2) := by decide +kernel
theorem dX12_passes_1012 : decode cX12_passes 1012 = .ok (.iconst 1, 1) := by decide +kernel
theorem dX12_passes_1013 : decode cX12_passes 1013 = .ok (.invokevirtual 103, 3) := by decide +kernel
theorem dX12_passes_1016 : decode cX12_passes 1016 = .ok (.iinc 3 1, 3) := by decide +kernel
theorem dX12_passes_1019 : decode cX12_passes 1019 = .ok (.goto (-82), 3) := by decide +kernel
theorem dX12_passes_1022 : decode cX12_passes 1022 = .ok (.iload_n 2, 1) := by decide +kernel
theorem dX12_passes_1023 : decode cX12_passes 1023 = .ok (.ifCond .eq 149, 3) := by decide +kernel
theorem dX12_passes_1026 : decode cX12_passes 1026 = .ok (.aload_n 0, 1) := by decide +kernel
theorem dX12_passes_1027 : decode cX12_passes 1027 = .ok (.aload_n 0, 1) := by decide +kernel
theorem dX12_passes_1028 : decode cX12_passes 1028 = .ok (.iconst 0, 1) := by decide +kernel
theorem dX12_passes_1029 : decode cX12_passes 1029 = .ok (.invokevirtual 132, 3) := by decide +kernel
theorem dX12_passes_1032 : decode cX12_passes 1032 = .ok (.invokevirtual 135, 3) := by decide +kernel
theorem dX12_passes_1035 : decode cX12_passes 1035 = .ok (.aload_n 0, 1) := by decide +kernel
theorem dX12_passes_1036 : decode cX12_passes 1036 = .ok (.getfield 13, 3) := by decide +kernel
theorem dX12_passes_1039 : decode cX12_passes 1039 = .ok (.if_icmp .lt 19, 3) := by decide +kernel
theorem dX12_passes_1042 : decode cX12_passes 1042 = .ok (.aload_n 0, 1) := by decide +kernel
theorem dX12_passes_1043 : decode cX12_passes 1043 = .ok (.aload_n 0, 1) := by decide +kernel
theorem dX12_passes_1044 : decode cX12_passes 1044 = .ok (.iconst 1, 1) := by decide +kernel
theorem dX12_passes_1045 : decode cX12_passes 1045 = .ok (.invokevirtual 132, 3) := by decide +kernel
theorem dX12_passes_1048 : decode cX12_passes 1048 = .ok (.invokevirtual 135, 3) := by decide +kernel
theorem dX12_passes_1051 : decode cX12_passes 1051 = .ok (.aload_n 0, 1) := by decide +kernel
theorem dX12_passes_1052 : decode cX12_passes 1052 = .ok (.getfield 13, 3) := by decide +kernel
theorem dX12_passes_1055 : decode cX12_passes 1055 = .ok (.if_icmp .ge 8, 3) := by decide +kernel
theorem dX12_passes_1058 : decode cX12_passes 1058 = .ok (.aload_n 0, 1) := by decide +kernel
theorem dX12_passes_1059 : decode cX12_passes 1059 = .ok (.iconst 0, 1) := by decide +kernel
theorem dX12_passes_1060 : decode cX12_passes 1060 = .ok (.putfield 7, 3) := by decide +kernel
theorem dX12_passes_1063 : decode cX12_passes 1063 = .ok (.iconst 0, 1) := by decide +kernel
theorem dX12_passes_1064 : decode cX12_passes 1064 = .ok (.istore_n 3, 1) := by decide +kernel
theorem dX12_passes_1065 : decode cX12_passes 1065 = .ok (.iload_n 3, 1) := by decide +kernel
theorem dX12_passes_1066 : decode cX12_passes 1066 = .ok (.aload_n 0, 1) := by decide +kernel
theorem dX12_passes_1067 : decode cX12_passes 1067 = .ok (.getfield 50, 3) := by decide +kernel
theorem dX12_passes_1070 : decode cX12_passes 1070 = .ok (.if_icmp .ge 61, 3) := by decide +kernel
theorem dX12_passes_1073 : decode cX12_passes 1073 = .ok (.aload_n 0, 1) := by decide +kernel
theorem dX12_passes_1074 : decode cX12_passes 1074 = .ok (.getfield 30, 3) := by decide +kernel
theorem dX12_passes_1077 : decode cX12_passes 1077 = .ok (.iload_n 3, 1) := by decide +kernel
theorem dX12_passes_1078 : decode cX12_passes 1078 = .ok (.aaload, 1) := by decide +kernel
theorem dX12_passes_1079 : decode cX12_passes 1079 = .ok (.bipush 6, 2) := by decide +kernel
theorem dX12_passes_1081 : decode cX12_passes 1081 = .ok (.iaload, 1) := by decide +kernel
theorem dX12_passes_1082 : decode cX12_passes 1082 = .ok (.iconst 2, 1) := by decide +kernel
theorem dX12_passes_1083 : decode cX12_passes 1083 = .ok (.if_icmp .ne 42, 3) := by decide +kernel
theorem dX12_passes_1086 : decode cX12_passes 1086 = .ok (.aload_n 0, 1) := by decide +kernel
theorem dX12_passes_1087 : decode cX12_passes 1087 = .ok (.getfield 44, 3) := by decide +kernel
theorem dX12_passes_1090 : decode cX12_passes 1090 = .ok (.aload_n 0, 1) := by decide +kernel
theorem dX12_passes_1091 : decode cX12_passes 1091 = .ok (.getfield 30, 3) := by decide +kernel
theorem dX12_passes_1094 : decode cX12_passes 1094 = .ok (.iload_n 3, 1) := by decide +kernel
theorem dX12_passes_1095 : decode cX12_passes 1095 = .ok (.aaload, 1) := by decide +kernel
theorem dX12_passes_1096 : decode cX12_passes 1096 = .ok (.bipush 8, 2) := by decide +kernel
theorem dX12_passes_1098 : decode cX12_passes 1098 = .ok (.iaload, 1) := by decide +kernel
theorem dX12_passes_1099 : decode cX12_passes 1099 = .ok (.isub, 1) := by decide +kernel
theorem dX12_passes_1100 : decode cX12_passes 1100 = .ok (.aload_n 0, 1) := by decide +kernel
theorem dX12_passes_1101 : decode cX12_passes 1101 = .ok (.getfield 16, 3) := by decide +kernel
theorem dX12_passes_1104 : decode cX12_passes 1104 = .ok (.if_icmp .lt 21, 3) := by decide +kernel
theorem dX12_passes_1107 : decode cX12_passes 1107 = .ok (.aload_n 0, 1) := by decide +kernel
theorem dX12_passes_1108 : decode cX12_passes 1108 = .ok (.getfield 30, 3) := by decide +kernel
theorem dX12_passes_1111 : decode cX12_passes 1111 = .ok (.iload_n 3, 1) := by decide +kernel
theorem dX12_passes_1112 : decode cX12_passes 1112 = .ok (.aaload, 1) := by decide +kernel
theorem dX12_passes_1113 : decode cX12_passes 1113 = .ok (.bipush 6, 2) := by decide +kernel
theorem dX12_passes_1115 : decode cX12_passes 1115 = .ok (.iconst 0, 1) := by decide +kernel
theorem dX12_passes_1116 : decode cX12_passes 1116 = .ok (.iastore, 1) := by decide +kernel
theorem dX12_passes_1117 : decode cX12_passes 1117 = .ok (.aload_n 0, 1) := by decide +kernel
theorem dX12_passes_1118 : decode cX12_passes 1118 = .ok (.iconst 5, 1) := by decide +kernel
theorem dX12_passes_1119 : decode cX12_passes 1119 = .ok (.iload_n 3, 1) := by decide +kernel
theorem dX12_passes_1120 : decode cX12_passes 1120 = .ok (.iconst 0, 1) := by decide +kernel
theorem dX12_passes_1121 : decode cX12_passes 1121 = .ok (.iload_n 1, 1) := by decide +kernel
theorem dX12_passes_1122 : decode cX12_passes 1122 = .ok (.invokevirtual 103, 3) := by decide +kernel
theorem dX12_passes_1125 : decode cX12_passes 1125 = .ok (.iinc 3 1, 3) := by decide +kernel
theorem dX12_passes_1128 : decode cX12_passes 1128 = .ok (.goto (-63), 3) := by decide +kernel
theorem dX12_passes_1131 : decode cX12_passes 1131 = .ok (.aload_n 0, 1) := by decide +kernel
theorem dX12_passes_1132 : decode cX12_passes 1132 = .ok (.getfield 7, 3) := by decide +kernel
theorem dX12_passes_1135 : decode cX12_passes 1135 = .ok (.ifCond .ne 37, 3) := by decide +kernel
theorem dX12_passes_1138 : decode cX12_passes 1138 = .ok (.iconst 0, 1) := by decide +kernel
theorem dX12_passes_1139 : decode cX12_passes 1139 = .ok (.istore_n 3, 1) := by decide +kernel
theorem dX12_passes_1140 : decode cX12_passes 1140 = .ok (.iload_n 3, 1) := by decide +kernel
theorem dX12_passes_1141 : decode cX12_passes 1141 = .ok (.aload_n 0, 1) := by decide +kernel
theorem dX12_passes_1142 : decode cX12_passes 1142 = .ok (.getfield 50, 3) := by decide +kernel
theorem dX12_passes_1145 : decode cX12_passes 1145 = .ok (.if_icmp .ge 19, 3) := by decide +kernel
theorem dX12_passes_1148 : decode cX12_passes 1148 = .ok (.aload_n 0, 1) := by decide +kernel
theorem dX12_passes_1149 : decode cX12_passes 1149 = .ok (.getfield 30, 3) := by decide +kernel
theorem dX12_passes_1152 : decode cX12_passes 1152 = .ok (.iload_n 3, 1) := by decide +kernel
theorem dX12_passes_1153 : decode cX12_passes 1153 = .ok (.aaload, 1) := by decide +kernel
theorem dX12_passes_1154 : decode cX12_passes 1154 = .ok (.bipush 6, 2) := by decide +kernel
theorem dX12_passes_1156 : decode cX12_passes 1156 = .ok (.iconst 0, 1) := by decide +kernel
theorem dX12_passes_1157 : decode cX12_passes 1157 = .ok (.iastore, 1) := by decide +kernel
theorem dX12_passes_1158 : decode cX12_passes 1158 = .ok (.iinc 3 1, 3) := by decide +kernel
theorem dX12_passes_1161 : decode cX12_passes 1161 = .ok (.goto (-21), 3) := by decide +kernel
theorem dX12_passes_1164 : decode cX12_passes 1164 = .ok (.aload_n 0, 1) := by decide +kernel
theorem dX12_passes_1165 : decode cX12_passes 1165 = .ok (.iconst 4, 1) := by decide +kernel
theorem dX12_passes_1166 : decode cX12_passes 1166 = .ok (.iconst (-1), 1) := by decide +kernel
theorem dX12_passes_1167 : decode cX12_passes 1167 = .ok (.iconst 0, 1) := by decide +kernel
theorem dX12_passes_1168 : decode cX12_passes 1168 = .ok (.iload_n 1, 1) := by decide +kernel
theorem dX12_passes_1169 : decode cX12_passes 1169 = .ok (.invokevirtual 103, 3) := by decide +kernel
theorem dX12_passes_1172 : decode cX12_passes 1172 = .ok (.aload_n 0, 1) := by decide +kernel
theorem dX12_passes_1173 : decode cX12_passes 1173 = .ok (.dup, 1) := by decide +kernel
theorem dX12_passes_1174 : decode cX12_passes 1174 = .ok (.getfield 44, 3) := by decide +kernel
theorem dX12_passes_1177 : decode cX12_passes 1177 = .ok (.iconst 1, 1) := by decide +kernel
theorem dX12_passes_1178 : decode cX12_passes 1178 = .ok (.iadd, 1) := by decide +kernel
theorem dX12_passes_1179 : decode cX12_passes 1179 = .ok (.putfield 44, 3) := by decide +kernel
theorem dX12_passes_1182 : decode cX12_passes 1182 = .ok (.return_, 1) := by decide +kernel
theorem dX12_rests_0 : decode cX12_rests 0 = .ok (.aload_n 0, 1) := by decide +kernel
theorem dX12_rests_1 : decode cX12_rests 1 = .ok (.getfield 37, 3) := by decide +kernel
theorem dX12_rests_4 : decode cX12_rests 4 = .ok (.arraylength, 1) := by decide +kernel
theorem dX12_rests_5 : decode cX12_rests 5 = .ok (.iconst 1, 1) := by decide +kernel
theorem dX12_rests_6 : decode cX12_rests 6 = .ok (.isub, 1) := by decide +kernel
theorem dX12_rests_7 : decode cX12_rests 7 = .ok (.istore_n 2, 1) := by decide +kernel
theorem dX12_rests_8 : decode cX12_rests 8 = .ok (.iload_n 2, 1) := by decide +kernel
theorem dX12_rests_9 : decode cX12_rests 9 = .ok (.ifCond .lt 54, 3) := by decide +kernel
theorem dX12_rests_12 : decode cX12_rests 12 = .ok (.aload_n 0, 1) := by decide +kernel
theorem dX12_rests_13 : decode cX12_rests 13 = .ok (.getfield 37, 3) := by decide +kernel
theorem dX12_rests_16 : decode cX12_rests 16 = .ok (.iload_n 2, 1) := by decide +kernel
theorem dX12_rests_17 : decode cX12_rests 17 = .ok (.aaload, 1) := by decide +kernel
theorem dX12_rests_18 : decode cX12_rests 18 = .ok (.iconst 0, 1) := by decide +kernel
theorem dX12_rests_19 : decode cX12_rests 19 = .ok (.iaload, 1) := by decide +kernel
theorem dX12_rests_20 : decode cX12_rests 20 = .ok (.aload_n 0, 1) := by decide +kernel
theorem dX12_rests_21 : decode cX12_rests 21 = .ok (.getfield 44, 3) := by decide +kernel
theorem dX12_rests_24 : decode cX12_rests 24 = .ok (.if_icmp .ne 33, 3) := by decide +kernel
theorem dX12_rests_27 : decode cX12_rests 27 = .ok (.aload_n 0, 1) := by decide +kernel
theorem dX12_rests_28 : decode cX12_rests 28 = .ok (.getfield 37, 3) := by decide +kernel
theorem dX12_rests_31 : decode cX12_rests 31 = .ok (.iload_n 2, 1) := by decide +kernel
theorem dX12_rests_32 : decode cX12_rests 32 = .ok (.aaload, 1) := by decide +kernel
theorem dX12_rests_33 : decode cX12_rests 33 = .ok (.iconst 2, 1) := by decide +kernel
theorem dX12_rests_34 : decode cX12_rests 34 = .ok (.iaload, 1) := by decide +kernel
theorem dX12_rests_35 : decode cX12_rests 35 = .ok (.iload_n 1, 1) := by decide +kernel
theorem dX12_rests_36 : decode cX12_rests 36 = .ok (.if_icmp .ne 21, 3) := by decide +kernel
theorem dX12_rests_39 : decode cX12_rests 39 = .ok (.aload_n 0, 1) := by decide +kernel
theorem dX12_rests_40 : decode cX12_rests 40 = .ok (.getfield 37, 3) := by decide +kernel
theorem dX12_rests_43 : decode cX12_rests 43 = .ok (.iload_n 2, 1) := by decide +kernel
theorem dX12_rests_44 : decode cX12_rests 44 = .ok (.aaload, 1) := by decide +kernel
theorem dX12_rests_45 : decode cX12_rests 45 = .ok (.iconst 1, 1) := by decide +kernel
theorem dX12_rests_46 : decode cX12_rests 46 = .ok (.iaload, 1) := by decide +kernel
theorem dX12_rests_47 : decode cX12_rests 47 = .ok (.iconst 1, 1) := by decide +kernel
theorem dX12_rests_48 : decode cX12_rests 48 = .ok (.if_icmp .ne 7, 3) := by decide +kernel
theorem dX12_rests_51 : decode cX12_rests 51 = .ok (.iconst 1, 1) := by decide +kernel
theorem dX12_rests_52 : decode cX12_rests 52 = .ok (.goto 4, 3) := by decide +kernel
theorem dX12_rests_55 : decode cX12_rests 55 = .ok (.iconst 0, 1) := by decide +kernel
theorem dX12_rests_56 : decode cX12_rests 56 = .ok (.ireturn, 1) := by decide +kernel
theorem dX12_rests_57 : decode cX12_rests 57 = .ok (.iinc 2 (-1), 3) := by decide +kernel
theorem dX12_rests_60 : decode cX12_rests 60 = .ok (.goto (-52), 3) := by decide +kernel
theorem dX12_rests_63 : decode cX12_rests 63 = .ok (.iconst 0, 1) := by decide +kernel
theorem dX12_rests_64 : decode cX12_rests 64 = .ok (.ireturn, 1) := by decide +kernel
theorem dX12_says_0 : decode cX12_says 0 = .ok (.aload_n 0, 1) := by decide +kernel
theorem dX12_says_1 : decode cX12_says 1 = .ok (.getfield 30, 3) := by decide +kernel
theorem dX12_says_4 : decode cX12_says 4 = .ok (.iload_n 2, 1) := by decide +kernel
theorem dX12_says_5 : decode cX12_says 5 = .ok (.aaload, 1) := by decide +kernel
theorem dX12_says_6 : decode cX12_says 6 = .ok (.astore_n 3, 1) := by decide +kernel
theorem dX12_says_7 : decode cX12_says 7 = .ok (.aload_n 0, 1) := by decide +kernel
theorem dX12_says_8 : decode cX12_says 8 = .ok (.getfield 69, 3) := by decide +kernel
theorem dX12_says_11 : decode cX12_says 11 = .ok (.astore 4, 2) := by decide +kernel
theorem dX12_says_13 : decode cX12_says 13 = .ok (.aload_n 3, 1) := by decide +kernel
theorem dX12_says_14 : decode cX12_says 14 = .ok (.bipush 6, 2) := by decide +kernel
theorem dX12_says_16 : decode cX12_says 16 = .ok (.iaload, 1) := by decide +kernel
theorem dX12_says_17 : decode cX12_says 17 = .ok (.iconst 1, 1) := by decide +kernel
theorem dX12_says_18 : decode cX12_says 18 = .ok (.if_icmp .ne 10, 3) := by decide +kernel
theorem dX12_says_21 : decode cX12_says 21 = .ok (.aload_n 3, 1) := by decide +kernel
theorem dX12_says_22 : decode cX12_says 22 = .ok (.bipush 7, 2) := by decide +kernel
theorem dX12_says_24 : decode cX12_says 24 = .ok (.iaload, 1) := by decide +kernel
theorem dX12_says_25 : decode cX12_says 25 = .ok (.goto 4, 3) := by decide +kernel
theorem dX12_says_28 : decode cX12_says 28 = .ok (.iconst 0, 1) := by decide +kernel
theorem dX12_says_29 : decode cX12_says 29 = .ok (.istore 5, 2) := by decide +kernel
theorem dX12_says_31 : decode cX12_says 31 = .ok (.aload_n 3, 1) := by decide +kernel
theorem dX12_says_32 : decode cX12_says 32 = .ok (.bipush 6, 2) := by decide +kernel
theorem dX12_says_34 : decode cX12_says 34 = .ok (.iaload, 1) := by decide +kernel
theorem dX12_says_35 : decode cX12_says 35 = .ok (.iconst 1, 1) := by decide +kernel
theorem dX12_says_36 : decode cX12_says 36 = .ok (.if_icmp .ne 20, 3) := by decide +kernel
theorem dX12_says_39 : decode cX12_says 39 = .ok (.aload_n 0, 1) := by decide +kernel
theorem dX12_says_40 : decode cX12_says 40 = .ok (.getfield 56, 3) := by decide +kernel
theorem dX12_says_43 : decode cX12_says 43 = .ok (.iload 5, 2) := by decide +kernel
theorem dX12_says_45 : decode cX12_says 45 = .ok (.ishr, 1) := by decide +kernel
theorem dX12_says_46 : decode cX12_says 46 = .ok (.iconst 1, 1) := by decide +kernel
theorem dX12_says_47 : decode cX12_says 47 = .ok (.iand, 1) := by decide +kernel
theorem dX12_says_48 : decode cX12_says 48 = .ok (.iconst 1, 1) := by decide +kernel
theorem dX12_says_49 : decode cX12_says 49 = .ok (.if_icmp .ne 7, 3) := by decide +kernel
theorem dX12_says_52 : decode cX12_says 52 = .ok (.iconst 1, 1) := by decide +kernel
theorem dX12_says_53 : decode cX12_says 53 = .ok (.goto 4, 3) := by decide +kernel
theorem dX12_says_56 : decode cX12_says 56 = .ok (.iconst 0, 1) := by decide +kernel
theorem dX12_says_57 : decode cX12_says 57 = .ok (.istore 6, 2) := by decide +kernel
theorem dX12_says_59 : decode cX12_says 59 = .ok (.aload_n 3, 1) := by decide +kernel
theorem dX12_says_60 : decode cX12_says 60 = .ok (.iconst 4, 1) := by decide +kernel
theorem dX12_says_61 : decode cX12_says 61 = .ok (.iaload, 1) := by decide +kernel
theorem dX12_says_62 : decode cX12_says 62 = .ok (.invokestatic 74, 3) := by decide +kernel
theorem dX12_says_65 : decode cX12_says 65 = .ok (.istore 7, 2) := by decide +kernel
theorem dX12_says_67 : decode cX12_says 67 = .ok (.aload 4, 2) := by decide +kernel
theorem dX12_says_69 : decode cX12_says 69 = .ok (.ifnonnull 45, 3) := by decide +kernel
theorem dX12_says_72 : decode cX12_says 72 = .ok (.iload_n 1, 1) := by decide +kernel
theorem dX12_says_73 : decode cX12_says 73 = .ok (.ifCond .ne 18, 3) := by decide +kernel
theorem dX12_says_76 : decode cX12_says 76 = .ok (.aload_n 3, 1) := by decide +kernel
theorem dX12_says_77 : decode cX12_says 77 = .ok (.iconst 1, 1) := by decide +kernel
theorem dX12_says_78 : decode cX12_says 78 = .ok (.iaload, 1) := by decide +kernel
theorem dX12_says_79 : decode cX12_says 79 = .ok (.bipush 59, 2) := by decide +kernel
theorem dX12_says_81 : decode cX12_says 81 = .ok (.isub, 1) := by decide +kernel
theorem dX12_says_82 : decode cX12_says 82 = .ok (.iconst 0, 1) := by decide +kernel
theorem dX12_says_83 : decode cX12_says 83 = .ok (.bipush 120, 2) := by decide +kernel
theorem dX12_says_85 : decode cX12_says 85 = .ok (.invokestatic 80, 3) := by decide +kernel
theorem dX12_says_88 : decode cX12_says 88 = .ok (.goto 25, 3) := by decide +kernel
theorem dX12_says_91 : decode cX12_says 91 = .ok (.iload_n 1, 1) := by decide +kernel
theorem dX12_says_92 : decode cX12_says 92 = .ok (.iconst 1, 1) := by decide +kernel
theorem dX12_says_93 : decode cX12_says 93 = .ok (.if_icmp .ne 9, 3) := by decide +kernel
theorem dX12_says_96 : decode cX12_says 96 = .ok (.aload_n 3, 1) := by decide +kernel
theorem dX12_says_97 : decode cX12_says 97 = .ok (.iconst 2, 1) := by decide +kernel
theorem dX12_says_98 : decode cX12_says 98 = .ok (.iaload, 1) := by decide +kernel
theorem dX12_says_99 : decode cX12_says 99 = .ok (.goto 14, 3) := by decide +kernel
theorem dX12_says_102 : decode cX12_says 102 = .ok (.iload_n 1, 1) := by decide +kernel
theorem dX12_says_103 : decode cX12_says 103 = .ok (.iconst 2, 1) := by decide +kernel
theorem dX12_says_104 : decode cX12_says 104 = .ok (.if_icmp .ne 7, 3) := by decide +kernel
theorem dX12_says_107 : decode cX12_says 107 = .ok (.iconst 0, 1) := by decide +kernel
theorem dX12_says_108 : decode cX12_says 108 = .ok (.goto 5, 3) := by decide +kernel
theorem dX12_says_111 : decode cX12_says 111 = .ok (.bipush 50, 2) := by decide +kernel
theorem dX12_says_113 : decode cX12_says 113 = .ok (.ireturn, 1) := by decide +kernel
theorem dX12_says_114 : decode cX12_says 114 = .ok (.iload_n 1, 1) := by decide +kernel
theorem dX12_says_115 : decode cX12_says 115 = .ok (.ifCond .ne 73, 3) := by decide +kernel
theorem dX12_says_118 : decode cX12_says 118 = .ok (.aload_n 3, 1) := by decide +kernel
theorem dX12_says_119 : decode cX12_says 119 = .ok (.iconst 1, 1) := by decide +kernel
theorem dX12_says_120 : decode cX12_says 120 = .ok (.iaload, 1) := by decide +kernel
theorem dX12_says_121 : decode cX12_says 121 = .ok (.aload 4, 2) := by decide +kernel
theorem dX12_says_123 : decode cX12_says 123 = .ok (.iconst 0, 1) := by decide +kernel
theorem dX12_says_124 : decode cX12_says 124 = .ok (.iaload, 1) := by decide +kernel
theorem dX12_says_125 : decode cX12_says 125 = .ok (.if_icmp .le 45, 3) := by decide +kernel
theorem dX12_says_128 : decode cX12_says 128 = .ok (.iload 7, 2) := by decide +kernel
theorem dX12_says_130 : decode cX12_says 130 = .ok (.iconst 3, 1) := by decide +kernel
theorem dX12_says_131 : decode cX12_says 131 = .ok (.if_icmp .gt 39, 3) := by decide +kernel
theorem dX12_says_134 : decode cX12_says 134 = .ok (.aload_n 3, 1) := by decide +kernel
theorem dX12_says_135 : decode cX12_says 135 = .ok (.iconst 0, 1) := by decide +kernel
theorem dX12_says_136 : decode cX12_says 136 = .ok (.iaload, 1) := by decide +kernel
theorem dX12_says_137 : decode cX12_says 137 = .ok (.iconst 1, 1) := by decide +kernel
theorem dX12_says_138 : decode cX12_says 138 = .ok (.if_icmp .ne 11, 3) := by decide +kernel
theorem dX12_says_141 : decode cX12_says 141 = .ok (.aload_n 0, 1) := by decide +kernel
theorem dX12_says_142 : decode cX12_says 142 = .ok (.getfield 47, 3) := by decide +kernel
theorem dX12_says_145 : decode cX12_says 145 = .ok (.iconst 5, 1) := by decide +kernel
theorem dX12_says_146 : decode cX12_says 146 = .ok (.if_icmp .gt 24, 3) := by decide +kernel
theorem dX12_says_149 : decode cX12_says 149 = .ok (.aload_n 3, 1) := by decide +kernel
theorem dX12_says_150 : decode cX12_says 150 = .ok (.iconst 1, 1) := by decide +kernel
theorem dX12_says_151 : decode cX12_says 151 = .ok (.iaload, 1) := by decide +kernel
theorem dX12_says_152 : decode cX12_says 152 = .ok (.aload 4, 2) := by decide +kernel
theorem dX12_says_154 : decode cX12_says 154 = .ok (.iconst 0, 1) := by decide +kernel
theorem dX12_says_155 : decode cX12_says 155 = .ok (.iaload, 1) := by decide +kernel
theorem dX12_says_156 : decode cX12_says 156 = .ok (.isub, 1) := by decide +kernel
theorem dX12_says_157 : decode cX12_says 157 = .ok (.aload_n 3, 1) := by decide +kernel
theorem dX12_says_158 : decode cX12_says 158 = .ok (.iconst 2, 1) := by decide +kernel
theorem dX12_says_159 : decode cX12_says 159 = .ok (.iaload, 1) := by decide +kernel
theorem dX12_says_160 : decode cX12_says 160 = .ok (.iadd, 1) := by decide +kernel
theorem dX12_says_161 : decode cX12_says 161 = .ok (.iconst 0, 1) := by decide +kernel
theorem dX12_says_162 : decode cX12_says 162 = .ok (.bipush 120, 2) := by decide +kernel
theorem dX12_says_164 : decode cX12_says 164 = .ok (.invokestatic 80, 3) := by decide +kernel
theorem dX12_says_167 : decode cX12_says 167 = .ok (.goto 20, 3) := by decide +kernel
theorem dX12_says_170 : decode cX12_says 170 = .ok (.aload_n 3, 1) := by decide +kernel
theorem dX12_says_171 : decode cX12_says 171 = .ok (.iconst 1, 1) := by decide +kernel
theorem dX12_says_172 : decode cX12_says 172 = .ok (.iaload, 1) := by decide +kernel
theorem dX12_says_173 : decode cX12_says 173 = .ok (.bipush 9, 2) := by decide +kernel
theorem dX12_says_175 : decode cX12_says 175 = .ok (.idiv, 1) := by decide +kernel
theorem dX12_says_176 : decode cX12_says 176 = .ok (.aload 4, 2) := by decide +kernel
theorem dX12_says_178 : decode cX12_says 178 = .ok (.iconst 1, 1) := by decide +kernel
theorem dX12_says_179 : decode cX12_says 179 = .ok (.iaload, 1) := by decide +kernel
theorem dX12_says_180 : decode cX12_says 180 = .ok (.isub, 1) := by decide +kernel
theorem dX12_says_181 : decode cX12_says 181 = .ok (.iconst 0, 1) := by decide +kernel
theorem dX12_says_182 : decode cX12_says 182 = .ok (.bipush 120, 2) := by decide +kernel
theorem dX12_says_184 : decode cX12_says 184 = .ok (.invokestatic 80, 3) := by decide +kernel
theorem dX12_says_187 : decode cX12_says 187 = .ok (.ireturn, 1) := by decide +kernel
theorem dX12_says_188 : decode cX12_says 188 = .ok (.iload_n 1, 1) := by decide +kernel
theorem dX12_says_189 : decode cX12_says 189 = .ok (.iconst 1, 1) := by decide +kernel
theorem dX12_says_190 : decode cX12_says 190 = .ok (.if_icmp .ne 50, 3) := by decide +kernel
theorem dX12_says_193 : decode cX12_says 193 = .ok (.iload 6, 2) := by decide +kernel
theorem dX12_says_195 : decode cX12_says 195 = .ok (.ifCond .ne 14, 3) := by decide +kernel
theorem dX12_says_198 : decode cX12_says 198 = .ok (.aload_n 0, 1) := by decide +kernel
theorem dX12_says_199 : decode cX12_says 199 = .ok (.getfield 47, 3) := by decide +kernel
theorem dX12_says_202 : decode cX12_says 202 = .ok (.aload 4, 2) := by decide +kernel
theorem dX12_says_204 : decode cX12_says 204 = .ok (.iconst 2, 1) := by decide +kernel
theorem dX12_says_205 : decode cX12_says 205 = .ok (.iaload, 1) := by decide +kernel
theorem dX12_says_206 : decode cX12_says 206 = .ok (.if_icmp .le 17, 3) := by decide +kernel
theorem dX12_says_209 : decode cX12_says 209 = .ok (.aload_n 3, 1) := by decide +kernel
theorem dX12_says_210 : decode cX12_says 210 = .ok (.iconst 2, 1) := by decide +kernel
theorem dX12_says_211 : decode cX12_says 211 = .ok (.iaload, 1) := by decide +kernel
theorem dX12_says_212 : decode cX12_says 212 = .ok (.iconst 2, 1) := by decide +kernel
theorem dX12_says_213 : decode cX12_says 213 = .ok (.idiv, 1) := by decide +kernel
theorem dX12_says_214 : decode cX12_says 214 = .ok (.iconst 0, 1) := by decide +kernel
theorem dX12_says_215 : decode cX12_says 215 = .ok (.bipush 9, 2) := by decide +kernel
theorem dX12_says_217 : decode cX12_says 217 = .ok (.invokestatic 80, 3) := by decide +kernel
theorem dX12_says_220 : decode cX12_says 220 = .ok (.goto 19, 3) := by decide +kernel
theorem dX12_says_223 : decode cX12_says 223 = .ok (.aload_n 3, 1) := by decide +kernel
theorem dX12_says_224 : decode cX12_says 224 = .ok (.iconst 2, 1) := by decide +kernel
theorem dX12_says_225 : decode cX12_says 225 = .ok (.iaload, 1) := by decide +kernel
theorem dX12_says_226 : decode cX12_says 226 = .ok (.aload 4, 2) := by decide +kernel
theorem dX12_says_228 : decode cX12_says 228 = .ok (.iconst 3, 1) := by decide +kernel
theorem dX12_says_229 : decode cX12_says 229 = .ok (.iaload, 1) := by decide +kernel
theorem dX12_says_230 : decode cX12_says 230 = .ok (.iadd, 1) := by decide +kernel
theorem dX12_says_231 : decode cX12_says 231 = .ok (.iconst 3, 1) := by decide +kernel
theorem dX12_says_232 : decode cX12_says 232 = .ok (.isub, 1) := by decide +kernel
theorem dX12_says_233 : decode cX12_says 233 = .ok (.iconst 0, 1) := by decide +kernel
theorem dX12_says_234 : decode cX12_says 234 = .ok (.bipush 9, 2) := by decide +kernel
theorem dX12_says_236 : decode cX12_says 236 = .ok (.invokestatic 80, 3) := by decide +kernel
theorem dX12_says_239 : decode cX12_says 239 = .ok (.ireturn, 1) := by decide +kernel
theorem dX12_says_240 : decode cX12_says 240 = .ok (.iload_n 1, 1) := by decide +kernel
theorem dX12_says_241 : decode cX12_says 241 = .ok (.iconst 2, 1) := by decide +kernel
theorem dX12_says_242 : decode cX12_says 242 = .ok (.if_icmp .ne 37, 3) := by decide +kernel
theorem dX12_says_245 : decode cX12_says 245 = .ok (.aload_n 3, 1) := by decide +kernel
theorem dX12_says_246 : decode cX12_says 246 = .ok (.iconst 3, 1) := by decide +kernel
theorem dX12_says_247 : decode cX12_says 247 = .ok (.iaload, 1) := by decide +kernel
theorem dX12_says_248 : decode cX12_says 248 = .ok (.aload 4, 2) := by decide +kernel
theorem dX12_says_250 : decode cX12_says 250 = .ok (.iconst 4, 1) := by decide +kernel
theorem dX12_says_251 : decode cX12_says 251 = .ok (.iaload, 1) := by decide +kernel
theorem dX12_says_252 : decode cX12_says 252 = .ok (.if_icmp .ge 25, 3) := by decide +kernel
theorem dX12_says_255 : decode cX12_says 255 = .ok (.aload_n 0, 1) := by decide +kernel
theorem dX12_says_256 : decode cX12_says 256 = .ok (.getfield 44, 3) := by decide +kernel
theorem dX12_says_259 : decode cX12_says 259 = .ok (.iconst 2, 1) := by decide +kernel
theorem dX12_says_260 : decode cX12_says 260 = .ok (.irem, 1) := by decide +kernel
theorem dX12_says_261 : decode cX12_says 261 = .ok (.ifCond .ne 16, 3) := by decide +kernel
theorem dX12_says_264 : decode cX12_says 264 = .ok (.aload 4, 2) := by decide +kernel
theorem dX12_says_266 : decode cX12_says 266 = .ok (.iconst 5, 1) := by decide +kernel
theorem dX12_says_267 : decode cX12_says 267 = .ok (.iaload, 1) := by decide +kernel
theorem dX12_says_268 : decode cX12_says 268 = .ok (.iconst 0, 1) := by decide +kernel
theorem dX12_says_269 : decode cX12_says 269 = .ok (.bipush 99, 2) := by decide +kernel
theorem dX12_says_271 : decode cX12_says 271 = .ok (.invokestatic 80, 3) := by decide +kernel
theorem dX12_says_274 : decode cX12_says 274 = .ok (.goto 4, 3) := by decide +kernel
theorem dX12_says_277 : decode cX12_says 277 = .ok (.iconst 0, 1) := by decide +kernel
theorem dX12_says_278 : decode cX12_says 278 = .ok (.ireturn, 1) := by decide +kernel
theorem dX12_says_279 : decode cX12_says 279 = .ok (.aload 4, 2) := by decide +kernel
theorem dX12_says_281 : decode cX12_says 281 = .ok (.bipush 6, 2) := by decide +kernel
theorem dX12_says_283 : decode cX12_says 283 = .ok (.iaload, 1) := by decide +kernel
theorem dX12_says_284 : decode cX12_says 284 = .ok (.iload 5, 2) := by decide +kernel
theorem dX12_says_286 : decode cX12_says 286 = .ok (.iconst 3, 1) := by decide +kernel
theorem dX12_says_287 : decode cX12_says 287 = .ok (.imul, 1) := by decide +kernel
theorem dX12_says_288 : decode cX12_says 288 = .ok (.iadd, 1) := by decide +kernel
theorem dX12_says_289 : decode cX12_says 289 = .ok (.iconst 0, 1) := by decide +kernel
theorem dX12_says_290 : decode cX12_says 290 = .ok (.sipush 1000, 3) := by decide +kernel
theorem dX12_says_293 : decode cX12_says 293 = .ok (.invokestatic 80, 3) := by decide +kernel
theorem dX12_says_296 : decode cX12_says 296 = .ok (.ireturn, 1) := by decide +kernel
theorem dX12_stands_0 : decode cX12_stands 0 = .ok (.iconst 0, 1) := by decide +kernel
theorem dX12_stands_1 : decode cX12_stands 1 = .ok (.istore_n 3, 1) := by decide +kernel
theorem dX12_stands_2 : decode cX12_stands 2 = .ok (.iload_n 3, 1) := by decide +kernel
theorem dX12_stands_3 : decode cX12_stands 3 = .ok (.aload_n 0, 1) := by decide +kernel
theorem dX12_stands_4 : decode cX12_stands 4 = .ok (.getfield 50, 3) := by decide +kernel
theorem dX12_stands_7 : decode cX12_stands 7 = .ok (.if_icmp .ge 34, 3) := by decide +kernel
theorem dX12_stands_10 : decode cX12_stands 10 = .ok (.aload_n 0, 1) := by decide +kernel
theorem dX12_stands_11 : decode cX12_stands 11 = .ok (.iload_n 3, 1) := by decide +kernel
theorem dX12_stands_12 : decode cX12_stands 12 = .ok (.iload_n 1, 1) := by decide +kernel
theorem dX12_stands_13 : decode cX12_stands 13 = .ok (.iconst 1, 1) := by decide +kernel
theorem dX12_stands_14 : decode cX12_stands 14 = .ok (.invokevirtual 93, 3) := by decide +kernel
theorem dX12_stands_17 : decode cX12_stands 17 = .ok (.ifCond .eq 18, 3) := by decide +kernel
theorem dX12_stands_20 : decode cX12_stands 20 = .ok (.aload_n 0, 1) := by decide +kernel
theorem dX12_stands_21 : decode cX12_stands 21 = .ok (.getfield 30, 3) := by decide +kernel
theorem dX12_stands_24 : decode cX12_stands 24 = .ok (.iload_n 3, 1) := by decide +kernel
theorem dX12_stands_25 : decode cX12_stands 25 = .ok (.aaload, 1) := by decide +kernel
theorem dX12_stands_26 : decode cX12_stands 26 = .ok (.bipush 7, 2) := by decide +kernel
theorem dX12_stands_28 : decode cX12_stands 28 = .ok (.iaload, 1) := by decide +kernel
theorem dX12_stands_29 : decode cX12_stands 29 = .ok (.iload_n 2, 1) := by decide +kernel
theorem dX12_stands_30 : decode cX12_stands 30 = .ok (.if_icmp .ne 5, 3) := by decide +kernel
theorem dX12_stands_33 : decode cX12_stands 33 = .ok (.iconst 1, 1) := by decide +kernel
theorem dX12_stands_34 : decode cX12_stands 34 = .ok (.ireturn, 1) := by decide +kernel
theorem dX12_stands_35 : decode cX12_stands 35 = .ok (.iinc 3 1, 3) := by decide +kernel
theorem dX12_stands_38 : decode cX12_stands 38 = .ok (.goto (-36), 3) := by decide +kernel
theorem dX12_stands_41 : decode cX12_stands 41 = .ok (.iconst 0, 1) := by decide +kernel
theorem dX12_stands_42 : decode cX12_stands 42 = .ok (.ireturn, 1) := by decide +kernel
theorem dX12_weighs_0 : decode cX12_weighs 0 = .ok (.iconst 0, 1) := by decide +kernel
theorem dX12_weighs_1 : decode cX12_weighs 1 = .ok (.istore_n 2, 1) := by decide +kernel
theorem dX12_weighs_2 : decode cX12_weighs 2 = .ok (.iconst 0, 1) := by decide +kernel
theorem dX12_weighs_3 : decode cX12_weighs 3 = .ok (.istore_n 3, 1) := by decide +kernel
theorem dX12_weighs_4 : decode cX12_weighs 4 = .ok (.iload_n 3, 1) := by decide +kernel
theorem dX12_weighs_5 : decode cX12_weighs 5 = .ok (.bipush 8, 2) := by decide +kernel
theorem dX12_weighs_7 : decode cX12_weighs 7 = .ok (.if_icmp .ge 27, 3) := by decide +kernel
theorem dX12_weighs_10 : decode cX12_weighs 10 = .ok (.iload_n 1, 1) := by decide +kernel
theorem dX12_weighs_11 : decode cX12_weighs 11 = .ok (.iload_n 3, 1) := by decide +kernel
theorem dX12_weighs_12 : decode cX12_weighs 12 = .ok (.ishr, 1) := by decide +kernel
theorem dX12_weighs_13 : decode cX12_weighs 13 = .ok (.iconst 1, 1) := by decide +kernel
theorem dX12_weighs_14 : decode cX12_weighs 14 = .ok (.iand, 1) := by decide +kernel
theorem dX12_weighs_15 : decode cX12_weighs 15 = .ok (.iconst 1, 1) := by decide +kernel
theorem dX12_weighs_16 : decode cX12_weighs 16 = .ok (.if_icmp .ne 12, 3) := by decide +kernel
theorem dX12_weighs_19 : decode cX12_weighs 19 = .ok (.iload_n 2, 1) := by decide +kernel
theorem dX12_weighs_20 : decode cX12_weighs 20 = .ok (.aload_n 0, 1) := by decide +kernel
theorem dX12_weighs_21 : decode cX12_weighs 21 = .ok (.getfield 26, 3) := by decide +kernel
theorem dX12_weighs_24 : decode cX12_weighs 24 = .ok (.iload_n 3, 1) := by decide +kernel
theorem dX12_weighs_25 : decode cX12_weighs 25 = .ok (.iaload, 1) := by decide +kernel
theorem dX12_weighs_26 : decode cX12_weighs 26 = .ok (.iadd, 1) := by decide +kernel
theorem dX12_weighs_27 : decode cX12_weighs 27 = .ok (.istore_n 2, 1) := by decide +kernel
theorem dX12_weighs_28 : decode cX12_weighs 28 = .ok (.iinc 3 1, 3) := by decide +kernel
theorem dX12_weighs_31 : decode cX12_weighs 31 = .ok (.goto (-27), 3) := by decide +kernel
theorem dX12_weighs_34 : decode cX12_weighs 34 = .ok (.iload_n 2, 1) := by decide +kernel
theorem dX12_weighs_35 : decode cX12_weighs 35 = .ok (.ireturn, 1) := by decide +kernel
theorem dJ5_init_d00df_0 : decode cJ5_init_d00df 0 = .ok (.aload_n 0, 1) := by decide +kernel
theorem dJ5_init_d00df_1 : decode cJ5_init_d00df 1 = .ok (.invokespecial 3, 3) := by decide +kernel
theorem dJ5_init_d00df_4 : decode cJ5_init_d00df 4 = .ok (.getstatic 18, 3) := by decide +kernel
theorem dJ5_init_d00df_7 : decode cJ5_init_d00df 7 = .ok (.ifCond .eq 18, 3) := by decide +kernel
theorem dJ5_init_d00df_10 : decode cJ5_init_d00df 10 = .ok (.aload_n 0, 1) := by decide +kernel
theorem dJ5_init_d00df_11 : decode cJ5_init_d00df 11 = .ok (.iload_n 1, 1) := by decide +kernel
theorem dJ5_init_d00df_12 : decode cJ5_init_d00df 12 = .ok (.newarray .byte, 2) := by decide +kernel
theorem dJ5_init_d00df_14 : decode cJ5_init_d00df 14 = .ok (.putfield 15, 3) := by decide +kernel
theorem dJ5_init_d00df_17 : decode cJ5_init_d00df 17 = .ok (.aload_n 0, 1) := by decide +kernel
theorem dJ5_init_d00df_18 : decode cJ5_init_d00df 18 = .ok (.iconst 0, 1) := by decide +kernel
theorem dJ5_init_d00df_19 : decode cJ5_init_d00df 19 = .ok (.putfield 22, 3) := by decide +kernel
theorem dJ5_init_d00df_22 : decode cJ5_init_d00df 22 = .ok (.goto 16, 3) := by decide +kernel
theorem dJ5_init_d00df_25 : decode cJ5_init_d00df 25 = .ok (.aload_n 0, 1) := by decide +kernel
theorem dJ5_init_d00df_26 : decode cJ5_init_d00df 26 = .ok (.iload_n 1, 1) := by decide +kernel
theorem dJ5_init_d00df_27 : decode cJ5_init_d00df 27 = .ok (.invokestatic 26, 3) := by decide +kernel
theorem dJ5_init_d00df_30 : decode cJ5_init_d00df 30 = .ok (.putfield 15, 3) := by decide +kernel
theorem dJ5_init_d00df_33 : decode cJ5_init_d00df 33 = .ok (.aload_n 0, 1) := by decide +kernel
theorem dJ5_init_d00df_34 : decode cJ5_init_d00df 34 = .ok (.iconst 1, 1) := by decide +kernel
theorem dJ5_init_d00df_35 : decode cJ5_init_d00df 35 = .ok (.putfield 22, 3) := by decide +kernel
theorem dJ5_init_d00df_38 : decode cJ5_init_d00df 38 = .ok (.return_, 1) := by decide +kernel
theorem dJ5_length_8abf5_0 : decode cJ5_length_8abf5 0 = .ok (.aload_n 0, 1) := by decide +kernel
theorem dJ5_length_8abf5_1 : decode cJ5_length_8abf5 1 = .ok (.getfield 79, 3) := by decide +kernel
theorem dJ5_length_8abf5_4 : decode cJ5_length_8abf5 4 = .ok (.ireturn, 1) := by decide +kernel
theorem dJ5_ensureCapacityInternal_d00df_0 : decode cJ5_ensureCapacityInternal_d00df 0 = .ok (.aload_n 0, 1) := by decide +kernel
theorem dJ5_ensureCapacityInternal_d00df_1 : decode cJ5_ensureCapacityInternal_d00df 1 = .ok (.getfield 15, 3) := by decide +kernel
theorem dJ5_ensureCapacityInternal_d00df_4 : decode cJ5_ensureCapacityInternal_d00df 4 = .ok (.arraylength, 1) := by decide +kernel
theorem dJ5_ensureCapacityInternal_d00df_5 : decode cJ5_ensureCapacityInternal_d00df 5 = .ok (.aload_n 0, 1) := by decide +kernel
theorem dJ5_ensureCapacityInternal_d00df_6 : decode cJ5_ensureCapacityInternal_d00df 6 = .ok (.getfield 22, 3) := by decide +kernel
theorem dJ5_ensureCapacityInternal_d00df_9 : decode cJ5_ensureCapacityInternal_d00df 9 = .ok (.ishr, 1) := by decide +kernel
theorem dJ5_ensureCapacityInternal_d00df_10 : decode cJ5_ensureCapacityInternal_d00df 10 = .ok (.istore_n 2, 1) := by decide +kernel
theorem dJ5_ensureCapacityInternal_d00df_11 : decode cJ5_ensureCapacityInternal_d00df 11 = .ok (.iload_n 1, 1) := by decide +kernel
theorem dJ5_ensureCapacityInternal_d00df_12 : decode cJ5_ensureCapacityInternal_d00df 12 = .ok (.iload_n 2, 1) := by decide +kernel
theorem dJ5_ensureCapacityInternal_d00df_13 : decode cJ5_ensureCapacityInternal_d00df 13 = .ok (.isub, 1) := by decide +kernel
theorem dJ5_ensureCapacityInternal_d00df_14 : decode cJ5_ensureCapacityInternal_d00df 14 = .ok (.ifCond .le 24, 3) := by decide +kernel
theorem dJ5_ensureCapacityInternal_d00df_17 : decode cJ5_ensureCapacityInternal_d00df 17 = .ok (.aload_n 0, 1) := by decide +kernel
theorem dJ5_ensureCapacityInternal_d00df_18 : decode cJ5_ensureCapacityInternal_d00df 18 = .ok (.aload_n 0, 1) := by decide +kernel
theorem dJ5_ensureCapacityInternal_d00df_19 : decode cJ5_ensureCapacityInternal_d00df 19 = .ok (.getfield 15, 3) := by decide +kernel
theorem dJ5_ensureCapacityInternal_d00df_22 : decode cJ5_ensureCapacityInternal_d00df 22 = .ok (.aload_n 0, 1) := by decide +kernel
theorem dJ5_ensureCapacityInternal_d00df_23 : decode cJ5_ensureCapacityInternal_d00df 23 = .ok (.iload_n 1, 1) := by decide +kernel
theorem dJ5_ensureCapacityInternal_d00df_24 : decode cJ5_ensureCapacityInternal_d00df 24 = .ok (.invokevirtual 104, 3) := by decide +kernel
theorem dJ5_ensureCapacityInternal_d00df_27 : decode cJ5_ensureCapacityInternal_d00df 27 = .ok (.aload_n 0, 1) := by decide +kernel
theorem dJ5_ensureCapacityInternal_d00df_28 : decode cJ5_ensureCapacityInternal_d00df 28 = .ok (.getfield 22, 3) := by decide +kernel
theorem dJ5_ensureCapacityInternal_d00df_31 : decode cJ5_ensureCapacityInternal_d00df 31 = .ok (.ishl, 1) := by decide +kernel
theorem dJ5_ensureCapacityInternal_d00df_32 : decode cJ5_ensureCapacityInternal_d00df 32 = .ok (.invokestatic 108, 3) := by decide +kernel
theorem dJ5_ensureCapacityInternal_d00df_35 : decode cJ5_ensureCapacityInternal_d00df 35 = .ok (.putfield 15, 3) := by decide +kernel
theorem dJ5_ensureCapacityInternal_d00df_38 : decode cJ5_ensureCapacityInternal_d00df 38 = .ok (.return_, 1) := by decide +kernel
theorem dJ5_newCapacity_0f7a4_0 : decode cJ5_newCapacity_0f7a4 0 = .ok (.aload_n 0, 1) := by decide +kernel
theorem dJ5_newCapacity_0f7a4_1 : decode cJ5_newCapacity_0f7a4 1 = .ok (.getfield 15, 3) := by decide +kernel
theorem dJ5_newCapacity_0f7a4_4 : decode cJ5_newCapacity_0f7a4 4 = .ok (.arraylength, 1) := by decide +kernel
theorem dJ5_newCapacity_0f7a4_5 : decode cJ5_newCapacity_0f7a4 5 = .ok (.istore_n 2, 1) := by decide +kernel
theorem dJ5_newCapacity_0f7a4_6 : decode cJ5_newCapacity_0f7a4 6 = .ok (.iload_n 1, 1) := by decide +kernel
theorem dJ5_newCapacity_0f7a4_7 : decode cJ5_newCapacity_0f7a4 7 = .ok (.aload_n 0, 1) := by decide +kernel
theorem dJ5_newCapacity_0f7a4_8 : decode cJ5_newCapacity_0f7a4 8 = .ok (.getfield 22, 3) := by decide +kernel
theorem dJ5_newCapacity_0f7a4_11 : decode cJ5_newCapacity_0f7a4 11 = .ok (.ishl, 1) := by decide +kernel
theorem dJ5_newCapacity_0f7a4_12 : decode cJ5_newCapacity_0f7a4 12 = .ok (.istore_n 3, 1) := by decide +kernel
theorem dJ5_newCapacity_0f7a4_13 : decode cJ5_newCapacity_0f7a4 13 = .ok (.iload_n 3, 1) := by decide +kernel
theorem dJ5_newCapacity_0f7a4_14 : decode cJ5_newCapacity_0f7a4 14 = .ok (.iload_n 2, 1) := by decide +kernel
theorem dJ5_newCapacity_0f7a4_15 : decode cJ5_newCapacity_0f7a4 15 = .ok (.isub, 1) := by decide +kernel
theorem dJ5_newCapacity_0f7a4_16 : decode cJ5_newCapacity_0f7a4 16 = .ok (.istore 4, 2) := by decide +kernel
theorem dJ5_newCapacity_0f7a4_18 : decode cJ5_newCapacity_0f7a4 18 = .ok (.iload_n 2, 1) := by decide +kernel
theorem dJ5_newCapacity_0f7a4_19 : decode cJ5_newCapacity_0f7a4 19 = .ok (.iload 4, 2) := by decide +kernel
theorem dJ5_newCapacity_0f7a4_21 : decode cJ5_newCapacity_0f7a4 21 = .ok (.iload_n 2, 1) := by decide +kernel
theorem dJ5_newCapacity_0f7a4_22 : decode cJ5_newCapacity_0f7a4 22 = .ok (.iconst 2, 1) := by decide +kernel
theorem dJ5_newCapacity_0f7a4_23 : decode cJ5_newCapacity_0f7a4 23 = .ok (.aload_n 0, 1) := by decide +kernel
theorem dJ5_newCapacity_0f7a4_24 : decode cJ5_newCapacity_0f7a4 24 = .ok (.getfield 22, 3) := by decide +kernel
theorem dJ5_newCapacity_0f7a4_27 : decode cJ5_newCapacity_0f7a4 27 = .ok (.ishl, 1) := by decide +kernel
theorem dJ5_newCapacity_0f7a4_28 : decode cJ5_newCapacity_0f7a4 28 = .ok (.iadd, 1) := by decide +kernel
theorem dJ5_newCapacity_0f7a4_29 : decode cJ5_newCapacity_0f7a4 29 = .ok (.invokestatic 114, 3) := by decide +kernel
theorem dJ5_newCapacity_0f7a4_32 : decode cJ5_newCapacity_0f7a4 32 = .ok (.istore 5, 2) := by decide +kernel
theorem dJ5_newCapacity_0f7a4_34 : decode cJ5_newCapacity_0f7a4 34 = .ok (.iload 5, 2) := by decide +kernel
theorem dJ5_newCapacity_0f7a4_36 : decode cJ5_newCapacity_0f7a4 36 = .ok (.ldc 39, 2) := by decide +kernel
theorem dJ5_newCapacity_0f7a4_38 : decode cJ5_newCapacity_0f7a4 38 = .ok (.if_icmp .ne 13, 3) := by decide +kernel
theorem dJ5_newCapacity_0f7a4_41 : decode cJ5_newCapacity_0f7a4 41 = .ok (.new 120, 3) := by decide +kernel
theorem dJ5_newCapacity_0f7a4_44 : decode cJ5_newCapacity_0f7a4 44 = .ok (.dup, 1) := by decide +kernel
theorem dJ5_newCapacity_0f7a4_45 : decode cJ5_newCapacity_0f7a4 45 = .ok (.ldc 122, 2) := by decide +kernel
theorem dJ5_newCapacity_0f7a4_47 : decode cJ5_newCapacity_0f7a4 47 = .ok (.invokespecial 124, 3) := by decide +kernel
theorem dJ5_newCapacity_0f7a4_50 : decode cJ5_newCapacity_0f7a4 50 = .ok (.athrow, 1) := by decide +kernel
theorem dJ5_newCapacity_0f7a4_51 : decode cJ5_newCapacity_0f7a4 51 = .ok (.iload 5, 2) := by decide +kernel
theorem dJ5_newCapacity_0f7a4_53 : decode cJ5_newCapacity_0f7a4 53 = .ok (.aload_n 0, 1) := by decide +kernel
theorem dJ5_newCapacity_0f7a4_54 : decode cJ5_newCapacity_0f7a4 54 = .ok (.getfield 22, 3) := by decide +kernel
theorem dJ5_newCapacity_0f7a4_57 : decode cJ5_newCapacity_0f7a4 57 = .ok (.ishr, 1) := by decide +kernel
theorem dJ5_newCapacity_0f7a4_58 : decode cJ5_newCapacity_0f7a4 58 = .ok (.ireturn, 1) := by decide +kernel
theorem dJ5_append_cf1ce_0 : decode cJ5_append_cf1ce 0 = .ok (.aload_n 1, 1) := by decide +kernel
theorem dJ5_append_cf1ce_1 : decode cJ5_append_cf1ce 1 = .ok (.ifnonnull 8, 3) := by decide +kernel
theorem dJ5_append_cf1ce_4 : decode cJ5_append_cf1ce 4 = .ok (.aload_n 0, 1) := by decide +kernel
theorem dJ5_append_cf1ce_5 : decode cJ5_append_cf1ce 5 = .ok (.invokevirtual 204, 3) := by decide +kernel
theorem dJ5_append_cf1ce_8 : decode cJ5_append_cf1ce 8 = .ok (.areturn, 1) := by decide +kernel
theorem dJ5_append_cf1ce_9 : decode cJ5_append_cf1ce 9 = .ok (.aload_n 1, 1) := by decide +kernel
theorem dJ5_append_cf1ce_10 : decode cJ5_append_cf1ce 10 = .ok (.invokevirtual 32, 3) := by decide +kernel
theorem dJ5_append_cf1ce_13 : decode cJ5_append_cf1ce 13 = .ok (.istore_n 2, 1) := by decide +kernel
theorem dJ5_append_cf1ce_14 : decode cJ5_append_cf1ce 14 = .ok (.aload_n 0, 1) := by decide +kernel
theorem dJ5_append_cf1ce_15 : decode cJ5_append_cf1ce 15 = .ok (.aload_n 0, 1) := by decide +kernel
theorem dJ5_append_cf1ce_16 : decode cJ5_append_cf1ce 16 = .ok (.getfield 79, 3) := by decide +kernel
theorem dJ5_append_cf1ce_19 : decode cJ5_append_cf1ce 19 = .ok (.iload_n 2, 1) := by decide +kernel
theorem dJ5_append_cf1ce_20 : decode cJ5_append_cf1ce 20 = .ok (.iadd, 1) := by decide +kernel
theorem dJ5_append_cf1ce_21 : decode cJ5_append_cf1ce 21 = .ok (.invokevirtual 100, 3) := by decide +kernel
theorem dJ5_append_cf1ce_24 : decode cJ5_append_cf1ce 24 = .ok (.aload_n 0, 1) := by decide +kernel
theorem dJ5_append_cf1ce_25 : decode cJ5_append_cf1ce 25 = .ok (.aload_n 0, 1) := by decide +kernel
theorem dJ5_append_cf1ce_26 : decode cJ5_append_cf1ce 26 = .ok (.getfield 79, 3) := by decide +kernel
theorem dJ5_append_cf1ce_29 : decode cJ5_append_cf1ce 29 = .ok (.aload_n 1, 1) := by decide +kernel
theorem dJ5_append_cf1ce_30 : decode cJ5_append_cf1ce 30 = .ok (.invokevirtual 208, 3) := by decide +kernel
theorem dJ5_append_cf1ce_33 : decode cJ5_append_cf1ce 33 = .ok (.aload_n 0, 1) := by decide +kernel
theorem dJ5_append_cf1ce_34 : decode cJ5_append_cf1ce 34 = .ok (.dup, 1) := by decide +kernel
theorem dJ5_append_cf1ce_35 : decode cJ5_append_cf1ce 35 = .ok (.getfield 79, 3) := by decide +kernel
theorem dJ5_append_cf1ce_38 : decode cJ5_append_cf1ce 38 = .ok (.iload_n 2, 1) := by decide +kernel
theorem dJ5_append_cf1ce_39 : decode cJ5_append_cf1ce 39 = .ok (.iadd, 1) := by decide +kernel
theorem dJ5_append_cf1ce_40 : decode cJ5_append_cf1ce 40 = .ok (.putfield 79, 3) := by decide +kernel
theorem dJ5_append_cf1ce_43 : decode cJ5_append_cf1ce 43 = .ok (.aload_n 0, 1) := by decide +kernel
theorem dJ5_append_cf1ce_44 : decode cJ5_append_cf1ce 44 = .ok (.areturn, 1) := by decide +kernel
theorem dJ5_append_c97b9_0 : decode cJ5_append_c97b9 0 = .ok (.aload_n 0, 1) := by decide +kernel
theorem dJ5_append_c97b9_1 : decode cJ5_append_c97b9 1 = .ok (.getfield 79, 3) := by decide +kernel
theorem dJ5_append_c97b9_4 : decode cJ5_append_c97b9 4 = .ok (.istore_n 2, 1) := by decide +kernel
theorem dJ5_append_c97b9_5 : decode cJ5_append_c97b9 5 = .ok (.iload_n 2, 1) := by decide +kernel
theorem dJ5_append_c97b9_6 : decode cJ5_append_c97b9 6 = .ok (.iload_n 1, 1) := by decide +kernel
theorem dJ5_append_c97b9_7 : decode cJ5_append_c97b9 7 = .ok (.invokestatic 245, 3) := by decide +kernel
theorem dJ5_append_c97b9_10 : decode cJ5_append_c97b9 10 = .ok (.iadd, 1) := by decide +kernel
theorem dJ5_append_c97b9_11 : decode cJ5_append_c97b9 11 = .ok (.istore_n 3, 1) := by decide +kernel
theorem dJ5_append_c97b9_12 : decode cJ5_append_c97b9 12 = .ok (.aload_n 0, 1) := by decide +kernel
theorem dJ5_append_c97b9_13 : decode cJ5_append_c97b9 13 = .ok (.iload_n 3, 1) := by decide +kernel
theorem dJ5_append_c97b9_14 : decode cJ5_append_c97b9 14 = .ok (.invokevirtual 100, 3) := by decide +kernel
theorem dJ5_append_c97b9_17 : decode cJ5_append_c97b9 17 = .ok (.aload_n 0, 1) := by decide +kernel
theorem dJ5_append_c97b9_18 : decode cJ5_append_c97b9 18 = .ok (.invokevirtual 83, 3) := by decide +kernel
theorem dJ5_append_c97b9_21 : decode cJ5_append_c97b9 21 = .ok (.ifCond .eq 16, 3) := by decide +kernel
theorem dJ5_append_c97b9_24 : decode cJ5_append_c97b9 24 = .ok (.iload_n 1, 1) := by decide +kernel
theorem dJ5_append_c97b9_25 : decode cJ5_append_c97b9 25 = .ok (.iload_n 3, 1) := by decide +kernel
theorem dJ5_append_c97b9_26 : decode cJ5_append_c97b9 26 = .ok (.aload_n 0, 1) := by decide +kernel
theorem dJ5_append_c97b9_27 : decode cJ5_append_c97b9 27 = .ok (.getfield 15, 3) := by decide +kernel
theorem dJ5_append_c97b9_30 : decode cJ5_append_c97b9 30 = .ok (.invokestatic 248, 3) := by decide +kernel
theorem dJ5_append_c97b9_33 : decode cJ5_append_c97b9 33 = .ok (.pop, 1) := by decide +kernel
theorem dJ5_append_c97b9_34 : decode cJ5_append_c97b9 34 = .ok (.goto 14, 3) := by decide +kernel
theorem dJ5_append_c97b9_37 : decode cJ5_append_c97b9 37 = .ok (.iload_n 1, 1) := by decide +kernel
theorem dJ5_append_c97b9_38 : decode cJ5_append_c97b9 38 = .ok (.iload_n 2, 1) := by decide +kernel
theorem dJ5_append_c97b9_39 : decode cJ5_append_c97b9 39 = .ok (.iload_n 3, 1) := by decide +kernel
theorem dJ5_append_c97b9_40 : decode cJ5_append_c97b9 40 = .ok (.aload_n 0, 1) := by decide +kernel
theorem dJ5_append_c97b9_41 : decode cJ5_append_c97b9 41 = .ok (.getfield 15, 3) := by decide +kernel
theorem dJ5_append_c97b9_44 : decode cJ5_append_c97b9 44 = .ok (.invokestatic 251, 3) := by decide +kernel
theorem dJ5_append_c97b9_47 : decode cJ5_append_c97b9 47 = .ok (.pop, 1) := by decide +kernel
theorem dJ5_append_c97b9_48 : decode cJ5_append_c97b9 48 = .ok (.aload_n 0, 1) := by decide +kernel
theorem dJ5_append_c97b9_49 : decode cJ5_append_c97b9 49 = .ok (.iload_n 3, 1) := by decide +kernel
theorem dJ5_append_c97b9_50 : decode cJ5_append_c97b9 50 = .ok (.putfield 79, 3) := by decide +kernel
theorem dJ5_append_c97b9_53 : decode cJ5_append_c97b9 53 = .ok (.aload_n 0, 1) := by decide +kernel
theorem dJ5_append_c97b9_54 : decode cJ5_append_c97b9 54 = .ok (.areturn, 1) := by decide +kernel
theorem dJ5_getValue_6d5f1_0 : decode cJ5_getValue_6d5f1 0 = .ok (.aload_n 0, 1) := by decide +kernel
theorem dJ5_getValue_6d5f1_1 : decode cJ5_getValue_6d5f1 1 = .ok (.getfield 15, 3) := by decide +kernel
theorem dJ5_getValue_6d5f1_4 : decode cJ5_getValue_6d5f1 4 = .ok (.areturn, 1) := by decide +kernel
theorem dJ5_isLatin1_aae02_0 : decode cJ5_isLatin1_aae02 0 = .ok (.getstatic 18, 3) := by decide +kernel
theorem dJ5_isLatin1_aae02_3 : decode cJ5_isLatin1_aae02 3 = .ok (.ifCond .eq 14, 3) := by decide +kernel
theorem dJ5_isLatin1_aae02_6 : decode cJ5_isLatin1_aae02 6 = .ok (.aload_n 0, 1) := by decide +kernel
theorem dJ5_isLatin1_aae02_7 : decode cJ5_isLatin1_aae02 7 = .ok (.getfield 22, 3) := by decide +kernel
theorem dJ5_isLatin1_aae02_10 : decode cJ5_isLatin1_aae02 10 = .ok (.ifCond .ne 7, 3) := by decide +kernel
theorem dJ5_isLatin1_aae02_13 : decode cJ5_isLatin1_aae02 13 = .ok (.iconst 1, 1) := by decide +kernel
theorem dJ5_isLatin1_aae02_14 : decode cJ5_isLatin1_aae02 14 = .ok (.goto 4, 3) := by decide +kernel
theorem dJ5_isLatin1_aae02_17 : decode cJ5_isLatin1_aae02 17 = .ok (.iconst 0, 1) := by decide +kernel
theorem dJ5_isLatin1_aae02_18 : decode cJ5_isLatin1_aae02 18 = .ok (.ireturn, 1) := by decide +kernel
theorem dJ5_inflateIfNeededFor_a7421_0 : decode cJ5_inflateIfNeededFor_a7421 0 = .ok (.getstatic 18, 3) := by decide +kernel
theorem dJ5_inflateIfNeededFor_a7421_3 : decode cJ5_inflateIfNeededFor_a7421 3 = .ok (.ifCond .eq 18, 3) := by decide +kernel
theorem dJ5_inflateIfNeededFor_a7421_6 : decode cJ5_inflateIfNeededFor_a7421 6 = .ok (.aload_n 0, 1) := by decide +kernel
theorem dJ5_inflateIfNeededFor_a7421_7 : decode cJ5_inflateIfNeededFor_a7421 7 = .ok (.getfield 22, 3) := by decide +kernel
theorem dJ5_inflateIfNeededFor_a7421_10 : decode cJ5_inflateIfNeededFor_a7421 10 = .ok (.aload_n 1, 1) := by decide +kernel
theorem dJ5_inflateIfNeededFor_a7421_11 : decode cJ5_inflateIfNeededFor_a7421 11 = .ok (.invokevirtual 40, 3) := by decide +kernel
theorem dJ5_inflateIfNeededFor_a7421_14 : decode cJ5_inflateIfNeededFor_a7421 14 = .ok (.if_icmp .eq 7, 3) := by decide +kernel
theorem dJ5_inflateIfNeededFor_a7421_17 : decode cJ5_inflateIfNeededFor_a7421 17 = .ok (.aload_n 0, 1) := by decide +kernel
theorem dJ5_inflateIfNeededFor_a7421_18 : decode cJ5_inflateIfNeededFor_a7421 18 = .ok (.invokevirtual 195, 3) := by decide +kernel
theorem dJ5_inflateIfNeededFor_a7421_21 : decode cJ5_inflateIfNeededFor_a7421 21 = .ok (.return_, 1) := by decide +kernel
theorem dJ5_putStringAt_47b60_0 : decode cJ5_putStringAt_47b60 0 = .ok (.aload_n 0, 1) := by decide +kernel
theorem dJ5_putStringAt_47b60_1 : decode cJ5_putStringAt_47b60 1 = .ok (.aload_n 2, 1) := by decide +kernel
theorem dJ5_putStringAt_47b60_2 : decode cJ5_putStringAt_47b60 2 = .ok (.invokevirtual 397, 3) := by decide +kernel
theorem dJ5_putStringAt_47b60_5 : decode cJ5_putStringAt_47b60 5 = .ok (.aload_n 2, 1) := by decide +kernel
theorem dJ5_putStringAt_47b60_6 : decode cJ5_putStringAt_47b60 6 = .ok (.aload_n 0, 1) := by decide +kernel
theorem dJ5_putStringAt_47b60_7 : decode cJ5_putStringAt_47b60 7 = .ok (.getfield 15, 3) := by decide +kernel
theorem dJ5_putStringAt_47b60_10 : decode cJ5_putStringAt_47b60 10 = .ok (.iload_n 1, 1) := by decide +kernel
theorem dJ5_putStringAt_47b60_11 : decode cJ5_putStringAt_47b60 11 = .ok (.aload_n 0, 1) := by decide +kernel
theorem dJ5_putStringAt_47b60_12 : decode cJ5_putStringAt_47b60 12 = .ok (.getfield 22, 3) := by decide +kernel
theorem dJ5_putStringAt_47b60_15 : decode cJ5_putStringAt_47b60 15 = .ok (.invokevirtual 399, 3) := by decide +kernel
theorem dJ5_putStringAt_47b60_18 : decode cJ5_putStringAt_47b60 18 = .ok (.return_, 1) := by decide +kernel
theorem dJ6_getChars_ba4f3_0 : decode cJ6_getChars_ba4f3 0 = .ok (.iload_n 1, 1) := by decide +kernel
theorem dJ6_getChars_ba4f3_1 : decode cJ6_getChars_ba4f3 1 = .ok (.istore 5, 2) := by decide +kernel
theorem dJ6_getChars_ba4f3_3 : decode cJ6_getChars_ba4f3 3 = .ok (.iload_n 0, 1) := by decide +kernel
theorem dJ6_getChars_ba4f3_4 : decode cJ6_getChars_ba4f3 4 = .ok (.ifCond .ge 7, 3) := by decide +kernel
theorem dJ6_getChars_ba4f3_7 : decode cJ6_getChars_ba4f3 7 = .ok (.iconst 1, 1) := by decide +kernel
theorem dJ6_getChars_ba4f3_8 : decode cJ6_getChars_ba4f3 8 = .ok (.goto 4, 3) := by decide +kernel
theorem dJ6_getChars_ba4f3_11 : decode cJ6_getChars_ba4f3 11 = .ok (.iconst 0, 1) := by decide +kernel
theorem dJ6_getChars_ba4f3_12 : decode cJ6_getChars_ba4f3 12 = .ok (.istore 6, 2) := by decide +kernel
theorem dJ6_getChars_ba4f3_14 : decode cJ6_getChars_ba4f3 14 = .ok (.iload 6, 2) := by decide +kernel
theorem dJ6_getChars_ba4f3_16 : decode cJ6_getChars_ba4f3 16 = .ok (.ifCond .ne 6, 3) := by decide +kernel
theorem dJ6_getChars_ba4f3_19 : decode cJ6_getChars_ba4f3 19 = .ok (.iload_n 0, 1) := by decide +kernel
theorem dJ6_getChars_ba4f3_20 : decode cJ6_getChars_ba4f3 20 = .ok (.ineg, 1) := by decide +kernel
theorem dJ6_getChars_ba4f3_21 : decode cJ6_getChars_ba4f3 21 = .ok (.istore_n 0, 1) := by decide +kernel
theorem dJ6_getChars_ba4f3_22 : decode cJ6_getChars_ba4f3 22 = .ok (.iload_n 0, 1) := by decide +kernel
theorem dJ6_getChars_ba4f3_23 : decode cJ6_getChars_ba4f3 23 = .ok (.bipush (-100), 2) := by decide +kernel
theorem dJ6_getChars_ba4f3_25 : decode cJ6_getChars_ba4f3 25 = .ok (.if_icmp .gt 47, 3) := by decide +kernel
theorem dJ6_getChars_ba4f3_28 : decode cJ6_getChars_ba4f3 28 = .ok (.iload_n 0, 1) := by decide +kernel
theorem dJ6_getChars_ba4f3_29 : decode cJ6_getChars_ba4f3 29 = .ok (.bipush 100, 2) := by decide +kernel
theorem dJ6_getChars_ba4f3_31 : decode cJ6_getChars_ba4f3 31 = .ok (.idiv, 1) := by decide +kernel
theorem dJ6_getChars_ba4f3_32 : decode cJ6_getChars_ba4f3 32 = .ok (.istore_n 3, 1) := by decide +kernel
theorem dJ6_getChars_ba4f3_33 : decode cJ6_getChars_ba4f3 33 = .ok (.iload_n 3, 1) := by decide +kernel
theorem dJ6_getChars_ba4f3_34 : decode cJ6_getChars_ba4f3 34 = .ok (.bipush 100, 2) := by decide +kernel
theorem dJ6_getChars_ba4f3_36 : decode cJ6_getChars_ba4f3 36 = .ok (.imul, 1) := by decide +kernel
theorem dJ6_getChars_ba4f3_37 : decode cJ6_getChars_ba4f3 37 = .ok (.iload_n 0, 1) := by decide +kernel
theorem dJ6_getChars_ba4f3_38 : decode cJ6_getChars_ba4f3 38 = .ok (.isub, 1) := by decide +kernel
theorem dJ6_getChars_ba4f3_39 : decode cJ6_getChars_ba4f3 39 = .ok (.istore 4, 2) := by decide +kernel
theorem dJ6_getChars_ba4f3_41 : decode cJ6_getChars_ba4f3 41 = .ok (.iload_n 3, 1) := by decide +kernel
theorem dJ6_getChars_ba4f3_42 : decode cJ6_getChars_ba4f3 42 = .ok (.istore_n 0, 1) := by decide +kernel
theorem dJ6_getChars_ba4f3_43 : decode cJ6_getChars_ba4f3 43 = .ok (.aload_n 2, 1) := by decide +kernel
theorem dJ6_getChars_ba4f3_44 : decode cJ6_getChars_ba4f3 44 = .ok (.iinc 5 (-1), 3) := by decide +kernel
theorem dJ6_getChars_ba4f3_47 : decode cJ6_getChars_ba4f3 47 = .ok (.iload 5, 2) := by decide +kernel
theorem dJ6_getChars_ba4f3_49 : decode cJ6_getChars_ba4f3 49 = .ok (.getstatic 83, 3) := by decide +kernel
theorem dJ6_getChars_ba4f3_52 : decode cJ6_getChars_ba4f3 52 = .ok (.iload 4, 2) := by decide +kernel
theorem dJ6_getChars_ba4f3_54 : decode cJ6_getChars_ba4f3 54 = .ok (.baload, 1) := by decide +kernel
theorem dJ6_getChars_ba4f3_55 : decode cJ6_getChars_ba4f3 55 = .ok (.bastore, 1) := by decide +kernel
theorem dJ6_getChars_ba4f3_56 : decode cJ6_getChars_ba4f3 56 = .ok (.aload_n 2, 1) := by decide +kernel
theorem dJ6_getChars_ba4f3_57 : decode cJ6_getChars_ba4f3 57 = .ok (.iinc 5 (-1), 3) := by decide +kernel
theorem dJ6_getChars_ba4f3_60 : decode cJ6_getChars_ba4f3 60 = .ok (.iload 5, 2) := by decide +kernel
theorem dJ6_getChars_ba4f3_62 : decode cJ6_getChars_ba4f3 62 = .ok (.getstatic 87, 3) := by decide +kernel
theorem dJ6_getChars_ba4f3_65 : decode cJ6_getChars_ba4f3 65 = .ok (.iload 4, 2) := by decide +kernel
theorem dJ6_getChars_ba4f3_67 : decode cJ6_getChars_ba4f3 67 = .ok (.baload, 1) := by decide +kernel
theorem dJ6_getChars_ba4f3_68 : decode cJ6_getChars_ba4f3 68 = .ok (.bastore, 1) := by decide +kernel
theorem dJ6_getChars_ba4f3_69 : decode cJ6_getChars_ba4f3 69 = .ok (.goto (-47), 3) := by decide +kernel
theorem dJ6_getChars_ba4f3_72 : decode cJ6_getChars_ba4f3 72 = .ok (.aload_n 2, 1) := by decide +kernel
theorem dJ6_getChars_ba4f3_73 : decode cJ6_getChars_ba4f3 73 = .ok (.iinc 5 (-1), 3) := by decide +kernel
theorem dJ6_getChars_ba4f3_76 : decode cJ6_getChars_ba4f3 76 = .ok (.iload 5, 2) := by decide +kernel
theorem dJ6_getChars_ba4f3_78 : decode cJ6_getChars_ba4f3 78 = .ok (.getstatic 83, 3) := by decide +kernel
theorem dJ6_getChars_ba4f3_81 : decode cJ6_getChars_ba4f3 81 = .ok (.iload_n 0, 1) := by decide +kernel
theorem dJ6_getChars_ba4f3_82 : decode cJ6_getChars_ba4f3 82 = .ok (.ineg, 1) := by decide +kernel
theorem dJ6_getChars_ba4f3_83 : decode cJ6_getChars_ba4f3 83 = .ok (.baload, 1) := by decide +kernel
theorem dJ6_getChars_ba4f3_84 : decode cJ6_getChars_ba4f3 84 = .ok (.bastore, 1) := by decide +kernel
theorem dJ6_getChars_ba4f3_85 : decode cJ6_getChars_ba4f3 85 = .ok (.iload_n 0, 1) := by decide +kernel
theorem dJ6_getChars_ba4f3_86 : decode cJ6_getChars_ba4f3 86 = .ok (.bipush (-9), 2) := by decide +kernel
theorem dJ6_getChars_ba4f3_88 : decode cJ6_getChars_ba4f3 88 = .ok (.if_icmp .ge 16, 3) := by decide +kernel
theorem dJ6_getChars_ba4f3_91 : decode cJ6_getChars_ba4f3 91 = .ok (.aload_n 2, 1) := by decide +kernel
theorem dJ6_getChars_ba4f3_92 : decode cJ6_getChars_ba4f3 92 = .ok (.iinc 5 (-1), 3) := by decide +kernel
theorem dJ6_getChars_ba4f3_95 : decode cJ6_getChars_ba4f3 95 = .ok (.iload 5, 2) := by decide +kernel
theorem dJ6_getChars_ba4f3_97 : decode cJ6_getChars_ba4f3 97 = .ok (.getstatic 87, 3) := by decide +kernel
theorem dJ6_getChars_ba4f3_100 : decode cJ6_getChars_ba4f3 100 = .ok (.iload_n 0, 1) := by decide +kernel
theorem dJ6_getChars_ba4f3_101 : decode cJ6_getChars_ba4f3 101 = .ok (.ineg, 1) := by decide +kernel
theorem dJ6_getChars_ba4f3_102 : decode cJ6_getChars_ba4f3 102 = .ok (.baload, 1) := by decide +kernel
theorem dJ6_getChars_ba4f3_103 : decode cJ6_getChars_ba4f3 103 = .ok (.bastore, 1) := by decide +kernel
theorem dJ6_getChars_ba4f3_104 : decode cJ6_getChars_ba4f3 104 = .ok (.iload 6, 2) := by decide +kernel
theorem dJ6_getChars_ba4f3_106 : decode cJ6_getChars_ba4f3 106 = .ok (.ifCond .eq 12, 3) := by decide +kernel
theorem dJ6_getChars_ba4f3_109 : decode cJ6_getChars_ba4f3 109 = .ok (.aload_n 2, 1) := by decide +kernel
theorem dJ6_getChars_ba4f3_110 : decode cJ6_getChars_ba4f3 110 = .ok (.iinc 5 (-1), 3) := by decide +kernel
theorem dJ6_getChars_ba4f3_113 : decode cJ6_getChars_ba4f3 113 = .ok (.iload 5, 2) := by decide +kernel
theorem dJ6_getChars_ba4f3_115 : decode cJ6_getChars_ba4f3 115 = .ok (.bipush 45, 2) := by decide +kernel
theorem dJ6_getChars_ba4f3_117 : decode cJ6_getChars_ba4f3 117 = .ok (.bastore, 1) := by decide +kernel
theorem dJ6_getChars_ba4f3_118 : decode cJ6_getChars_ba4f3 118 = .ok (.iload 5, 2) := by decide +kernel
theorem dJ6_getChars_ba4f3_120 : decode cJ6_getChars_ba4f3 120 = .ok (.ireturn, 1) := by decide +kernel
theorem dJ6_stringSize_0f7a4_0 : decode cJ6_stringSize_0f7a4 0 = .ok (.iconst 1, 1) := by decide +kernel
theorem dJ6_stringSize_0f7a4_1 : decode cJ6_stringSize_0f7a4 1 = .ok (.istore_n 1, 1) := by decide +kernel
theorem dJ6_stringSize_0f7a4_2 : decode cJ6_stringSize_0f7a4 2 = .ok (.iload_n 0, 1) := by decide +kernel
theorem dJ6_stringSize_0f7a4_3 : decode cJ6_stringSize_0f7a4 3 = .ok (.ifCond .lt 8, 3) := by decide +kernel
theorem dJ6_stringSize_0f7a4_6 : decode cJ6_stringSize_0f7a4 6 = .ok (.iconst 0, 1) := by decide +kernel
theorem dJ6_stringSize_0f7a4_7 : decode cJ6_stringSize_0f7a4 7 = .ok (.istore_n 1, 1) := by decide +kernel
theorem dJ6_stringSize_0f7a4_8 : decode cJ6_stringSize_0f7a4 8 = .ok (.iload_n 0, 1) := by decide +kernel
theorem dJ6_stringSize_0f7a4_9 : decode cJ6_stringSize_0f7a4 9 = .ok (.ineg, 1) := by decide +kernel
theorem dJ6_stringSize_0f7a4_10 : decode cJ6_stringSize_0f7a4 10 = .ok (.istore_n 0, 1) := by decide +kernel
theorem dJ6_stringSize_0f7a4_11 : decode cJ6_stringSize_0f7a4 11 = .ok (.bipush (-10), 2) := by decide +kernel
theorem dJ6_stringSize_0f7a4_13 : decode cJ6_stringSize_0f7a4 13 = .ok (.istore_n 2, 1) := by decide +kernel
theorem dJ6_stringSize_0f7a4_14 : decode cJ6_stringSize_0f7a4 14 = .ok (.iconst 1, 1) := by decide +kernel
theorem dJ6_stringSize_0f7a4_15 : decode cJ6_stringSize_0f7a4 15 = .ok (.istore_n 3, 1) := by decide +kernel
theorem dJ6_stringSize_0f7a4_16 : decode cJ6_stringSize_0f7a4 16 = .ok (.iload_n 3, 1) := by decide +kernel
theorem dJ6_stringSize_0f7a4_17 : decode cJ6_stringSize_0f7a4 17 = .ok (.bipush 10, 2) := by decide +kernel
theorem dJ6_stringSize_0f7a4_19 : decode cJ6_stringSize_0f7a4 19 = .ok (.if_icmp .ge 23, 3) := by decide +kernel
theorem dJ6_stringSize_0f7a4_22 : decode cJ6_stringSize_0f7a4 22 = .ok (.iload_n 0, 1) := by decide +kernel
theorem dJ6_stringSize_0f7a4_23 : decode cJ6_stringSize_0f7a4 23 = .ok (.iload_n 2, 1) := by decide +kernel
theorem dJ6_stringSize_0f7a4_24 : decode cJ6_stringSize_0f7a4 24 = .ok (.if_icmp .le 7, 3) := by decide +kernel
theorem dJ6_stringSize_0f7a4_27 : decode cJ6_stringSize_0f7a4 27 = .ok (.iload_n 3, 1) := by decide +kernel
theorem dJ6_stringSize_0f7a4_28 : decode cJ6_stringSize_0f7a4 28 = .ok (.iload_n 1, 1) := by decide +kernel
theorem dJ6_stringSize_0f7a4_29 : decode cJ6_stringSize_0f7a4 29 = .ok (.iadd, 1) := by decide +kernel
theorem dJ6_stringSize_0f7a4_30 : decode cJ6_stringSize_0f7a4 30 = .ok (.ireturn, 1) := by decide +kernel
theorem dJ6_stringSize_0f7a4_31 : decode cJ6_stringSize_0f7a4 31 = .ok (.bipush 10, 2) := by decide +kernel
theorem dJ6_stringSize_0f7a4_33 : decode cJ6_stringSize_0f7a4 33 = .ok (.iload_n 2, 1) := by decide +kernel
theorem dJ6_stringSize_0f7a4_34 : decode cJ6_stringSize_0f7a4 34 = .ok (.imul, 1) := by decide +kernel
theorem dJ6_stringSize_0f7a4_35 : decode cJ6_stringSize_0f7a4 35 = .ok (.istore_n 2, 1) := by decide +kernel
theorem dJ6_stringSize_0f7a4_36 : decode cJ6_stringSize_0f7a4 36 = .ok (.iinc 3 1, 3) := by decide +kernel
theorem dJ6_stringSize_0f7a4_39 : decode cJ6_stringSize_0f7a4 39 = .ok (.goto (-23), 3) := by decide +kernel
theorem dJ6_stringSize_0f7a4_42 : decode cJ6_stringSize_0f7a4 42 = .ok (.bipush 10, 2) := by decide +kernel
theorem dJ6_stringSize_0f7a4_44 : decode cJ6_stringSize_0f7a4 44 = .ok (.iload_n 1, 1) := by decide +kernel
theorem dJ6_stringSize_0f7a4_45 : decode cJ6_stringSize_0f7a4 45 = .ok (.iadd, 1) := by decide +kernel
theorem dJ6_stringSize_0f7a4_46 : decode cJ6_stringSize_0f7a4 46 = .ok (.ireturn, 1) := by decide +kernel
theorem dJ6_numberOfTrailingZeros_0f7a4_0 : decode cJ6_numberOfTrailingZeros_0f7a4 0 = .ok (.iload_n 0, 1) := by decide +kernel
theorem dJ6_numberOfTrailingZeros_0f7a4_1 : decode cJ6_numberOfTrailingZeros_0f7a4 1 = .ok (.iconst (-1), 1) := by decide +kernel
theorem dJ6_numberOfTrailingZeros_0f7a4_2 : decode cJ6_numberOfTrailingZeros_0f7a4 2 = .ok (.ixor, 1) := by decide +kernel
theorem dJ6_numberOfTrailingZeros_0f7a4_3 : decode cJ6_numberOfTrailingZeros_0f7a4 3 = .ok (.iload_n 0, 1) := by decide +kernel
theorem dJ6_numberOfTrailingZeros_0f7a4_4 : decode cJ6_numberOfTrailingZeros_0f7a4 4 = .ok (.iconst 1, 1) := by decide +kernel
theorem dJ6_numberOfTrailingZeros_0f7a4_5 : decode cJ6_numberOfTrailingZeros_0f7a4 5 = .ok (.isub, 1) := by decide +kernel
theorem dJ6_numberOfTrailingZeros_0f7a4_6 : decode cJ6_numberOfTrailingZeros_0f7a4 6 = .ok (.iand, 1) := by decide +kernel
theorem dJ6_numberOfTrailingZeros_0f7a4_7 : decode cJ6_numberOfTrailingZeros_0f7a4 7 = .ok (.istore_n 0, 1) := by decide +kernel
theorem dJ6_numberOfTrailingZeros_0f7a4_8 : decode cJ6_numberOfTrailingZeros_0f7a4 8 = .ok (.iload_n 0, 1) := by decide +kernel
theorem dJ6_numberOfTrailingZeros_0f7a4_9 : decode cJ6_numberOfTrailingZeros_0f7a4 9 = .ok (.ifCond .gt 8, 3) := by decide +kernel
theorem dJ6_numberOfTrailingZeros_0f7a4_12 : decode cJ6_numberOfTrailingZeros_0f7a4 12 = .ok (.iload_n 0, 1) := by decide +kernel
theorem dJ6_numberOfTrailingZeros_0f7a4_13 : decode cJ6_numberOfTrailingZeros_0f7a4 13 = .ok (.bipush 32, 2) := by decide +kernel
theorem dJ6_numberOfTrailingZeros_0f7a4_15 : decode cJ6_numberOfTrailingZeros_0f7a4 15 = .ok (.iand, 1) := by decide +kernel
theorem dJ6_numberOfTrailingZeros_0f7a4_16 : decode cJ6_numberOfTrailingZeros_0f7a4 16 = .ok (.ireturn, 1) := by decide +kernel
theorem dJ6_numberOfTrailingZeros_0f7a4_17 : decode cJ6_numberOfTrailingZeros_0f7a4 17 = .ok (.iconst 1, 1) := by decide +kernel
theorem dJ6_numberOfTrailingZeros_0f7a4_18 : decode cJ6_numberOfTrailingZeros_0f7a4 18 = .ok (.istore_n 1, 1) := by decide +kernel
theorem dJ6_numberOfTrailingZeros_0f7a4_19 : decode cJ6_numberOfTrailingZeros_0f7a4 19 = .ok (.iload_n 0, 1) := by decide +kernel
theorem dJ6_numberOfTrailingZeros_0f7a4_20 : decode cJ6_numberOfTrailingZeros_0f7a4 20 = .ok (.ldc_w 264, 3) := by decide +kernel
theorem dJ6_numberOfTrailingZeros_0f7a4_23 : decode cJ6_numberOfTrailingZeros_0f7a4 23 = .ok (.if_icmp .le 11, 3) := by decide +kernel
theorem dJ6_numberOfTrailingZeros_0f7a4_26 : decode cJ6_numberOfTrailingZeros_0f7a4 26 = .ok (.iinc 1 16, 3) := by decide +kernel
theorem dJ6_numberOfTrailingZeros_0f7a4_29 : decode cJ6_numberOfTrailingZeros_0f7a4 29 = .ok (.iload_n 0, 1) := by decide +kernel
theorem dJ6_numberOfTrailingZeros_0f7a4_30 : decode cJ6_numberOfTrailingZeros_0f7a4 30 = .ok (.bipush 16, 2) := by decide +kernel
theorem dJ6_numberOfTrailingZeros_0f7a4_32 : decode cJ6_numberOfTrailingZeros_0f7a4 32 = .ok (.iushr, 1) := by decide +kernel
theorem dJ6_numberOfTrailingZeros_0f7a4_33 : decode cJ6_numberOfTrailingZeros_0f7a4 33 = .ok (.istore_n 0, 1) := by decide +kernel
theorem dJ6_numberOfTrailingZeros_0f7a4_34 : decode cJ6_numberOfTrailingZeros_0f7a4 34 = .ok (.iload_n 0, 1) := by decide +kernel
theorem dJ6_numberOfTrailingZeros_0f7a4_35 : decode cJ6_numberOfTrailingZeros_0f7a4 35 = .ok (.sipush 256, 3) := by decide +kernel
theorem dJ6_numberOfTrailingZeros_0f7a4_38 : decode cJ6_numberOfTrailingZeros_0f7a4 38 = .ok (.if_icmp .le 11, 3) := by decide +kernel
theorem dJ6_numberOfTrailingZeros_0f7a4_41 : decode cJ6_numberOfTrailingZeros_0f7a4 41 = .ok (.iinc 1 8, 3) := by decide +kernel
theorem dJ6_numberOfTrailingZeros_0f7a4_44 : decode cJ6_numberOfTrailingZeros_0f7a4 44 = .ok (.iload_n 0, 1) := by decide +kernel
theorem dJ6_numberOfTrailingZeros_0f7a4_45 : decode cJ6_numberOfTrailingZeros_0f7a4 45 = .ok (.bipush 8, 2) := by decide +kernel
theorem dJ6_numberOfTrailingZeros_0f7a4_47 : decode cJ6_numberOfTrailingZeros_0f7a4 47 = .ok (.iushr, 1) := by decide +kernel
theorem dJ6_numberOfTrailingZeros_0f7a4_48 : decode cJ6_numberOfTrailingZeros_0f7a4 48 = .ok (.istore_n 0, 1) := by decide +kernel
theorem dJ6_numberOfTrailingZeros_0f7a4_49 : decode cJ6_numberOfTrailingZeros_0f7a4 49 = .ok (.iload_n 0, 1) := by decide +kernel
theorem dJ6_numberOfTrailingZeros_0f7a4_50 : decode cJ6_numberOfTrailingZeros_0f7a4 50 = .ok (.bipush 16, 2) := by decide +kernel
theorem dJ6_numberOfTrailingZeros_0f7a4_52 : decode cJ6_numberOfTrailingZeros_0f7a4 52 = .ok (.if_icmp .le 10, 3) := by decide +kernel
theorem dJ6_numberOfTrailingZeros_0f7a4_55 : decode cJ6_numberOfTrailingZeros_0f7a4 55 = .ok (.iinc 1 4, 3) := by decide +kernel
theorem dJ6_numberOfTrailingZeros_0f7a4_58 : decode cJ6_numberOfTrailingZeros_0f7a4 58 = .ok (.iload_n 0, 1) := by decide +kernel
theorem dJ6_numberOfTrailingZeros_0f7a4_59 : decode cJ6_numberOfTrailingZeros_0f7a4 59 = .ok (.iconst 4, 1) := by decide +kernel
theorem dJ6_numberOfTrailingZeros_0f7a4_60 : decode cJ6_numberOfTrailingZeros_0f7a4 60 = .ok (.iushr, 1) := by decide +kernel
theorem dJ6_numberOfTrailingZeros_0f7a4_61 : decode cJ6_numberOfTrailingZeros_0f7a4 61 = .ok (.istore_n 0, 1) := by decide +kernel
theorem dJ6_numberOfTrailingZeros_0f7a4_62 : decode cJ6_numberOfTrailingZeros_0f7a4 62 = .ok (.iload_n 0, 1) := by decide +kernel
theorem dJ6_numberOfTrailingZeros_0f7a4_63 : decode cJ6_numberOfTrailingZeros_0f7a4 63 = .ok (.iconst 4, 1) := by decide +kernel
theorem dJ6_numberOfTrailingZeros_0f7a4_64 : decode cJ6_numberOfTrailingZeros_0f7a4 64 = .ok (.if_icmp .le 10, 3) := by decide +kernel
theorem dJ6_numberOfTrailingZeros_0f7a4_67 : decode cJ6_numberOfTrailingZeros_0f7a4 67 = .ok (.iinc 1 2, 3) := by decide +kernel
theorem dJ6_numberOfTrailingZeros_0f7a4_70 : decode cJ6_numberOfTrailingZeros_0f7a4 70 = .ok (.iload_n 0, 1) := by decide +kernel
theorem dJ6_numberOfTrailingZeros_0f7a4_71 : decode cJ6_numberOfTrailingZeros_0f7a4 71 = .ok (.iconst 2, 1) := by decide +kernel
theorem dJ6_numberOfTrailingZeros_0f7a4_72 : decode cJ6_numberOfTrailingZeros_0f7a4 72 = .ok (.iushr, 1) := by decide +kernel
theorem dJ6_numberOfTrailingZeros_0f7a4_73 : decode cJ6_numberOfTrailingZeros_0f7a4 73 = .ok (.istore_n 0, 1) := by decide +kernel
theorem dJ6_numberOfTrailingZeros_0f7a4_74 : decode cJ6_numberOfTrailingZeros_0f7a4 74 = .ok (.iload_n 1, 1) := by decide +kernel
theorem dJ6_numberOfTrailingZeros_0f7a4_75 : decode cJ6_numberOfTrailingZeros_0f7a4 75 = .ok (.iload_n 0, 1) := by decide +kernel
theorem dJ6_numberOfTrailingZeros_0f7a4_76 : decode cJ6_numberOfTrailingZeros_0f7a4 76 = .ok (.iconst 1, 1) := by decide +kernel
theorem dJ6_numberOfTrailingZeros_0f7a4_77 : decode cJ6_numberOfTrailingZeros_0f7a4 77 = .ok (.iushr, 1) := by decide +kernel
theorem dJ6_numberOfTrailingZeros_0f7a4_78 : decode cJ6_numberOfTrailingZeros_0f7a4 78 = .ok (.iadd, 1) := by decide +kernel
theorem dJ6_numberOfTrailingZeros_0f7a4_79 : decode cJ6_numberOfTrailingZeros_0f7a4 79 = .ok (.ireturn, 1) := by decide +kernel
theorem dJ0_init_81219_0 : decode cJ0_init_81219 0 = .ok (.aload_n 0, 1) := by decide +kernel
theorem dJ0_init_81219_1 : decode cJ0_init_81219 1 = .ok (.aload_n 1, 1) := by decide +kernel
theorem dJ0_init_81219_2 : decode cJ0_init_81219 2 = .ok (.aconst_null, 1) := by decide +kernel
theorem dJ0_init_81219_3 : decode cJ0_init_81219 3 = .ok (.invokespecial 489, 3) := by decide +kernel
theorem dJ0_init_81219_6 : decode cJ0_init_81219 6 = .ok (.return_, 1) := by decide +kernel
theorem dJ0_getBytes_840e7_0 : decode cJ0_getBytes_840e7 0 = .ok (.aload_n 0, 1) := by decide +kernel
theorem dJ0_getBytes_840e7_1 : decode cJ0_getBytes_840e7 1 = .ok (.invokevirtual 335, 3) := by decide +kernel
theorem dJ0_getBytes_840e7_4 : decode cJ0_getBytes_840e7 4 = .ok (.iload_n 3, 1) := by decide +kernel
theorem dJ0_getBytes_840e7_5 : decode cJ0_getBytes_840e7 5 = .ok (.if_icmp .ne 23, 3) := by decide +kernel
theorem dJ0_getBytes_840e7_8 : decode cJ0_getBytes_840e7 8 = .ok (.aload_n 0, 1) := by decide +kernel
theorem dJ0_getBytes_840e7_9 : decode cJ0_getBytes_840e7 9 = .ok (.getfield 9, 3) := by decide +kernel
theorem dJ0_getBytes_840e7_12 : decode cJ0_getBytes_840e7 12 = .ok (.iconst 0, 1) := by decide +kernel
theorem dJ0_getBytes_840e7_13 : decode cJ0_getBytes_840e7 13 = .ok (.aload_n 1, 1) := by decide +kernel
theorem dJ0_getBytes_840e7_14 : decode cJ0_getBytes_840e7 14 = .ok (.iload_n 2, 1) := by decide +kernel
theorem dJ0_getBytes_840e7_15 : decode cJ0_getBytes_840e7 15 = .ok (.iload_n 3, 1) := by decide +kernel
theorem dJ0_getBytes_840e7_16 : decode cJ0_getBytes_840e7 16 = .ok (.ishl, 1) := by decide +kernel
theorem dJ0_getBytes_840e7_17 : decode cJ0_getBytes_840e7 17 = .ok (.aload_n 0, 1) := by decide +kernel
theorem dJ0_getBytes_840e7_18 : decode cJ0_getBytes_840e7 18 = .ok (.getfield 9, 3) := by decide +kernel
theorem dJ0_getBytes_840e7_21 : decode cJ0_getBytes_840e7 21 = .ok (.arraylength, 1) := by decide +kernel
theorem dJ0_getBytes_840e7_22 : decode cJ0_getBytes_840e7 22 = .ok (.invokestatic 212, 3) := by decide +kernel
theorem dJ0_getBytes_840e7_25 : decode cJ0_getBytes_840e7 25 = .ok (.goto 18, 3) := by decide +kernel
theorem dJ0_getBytes_840e7_28 : decode cJ0_getBytes_840e7 28 = .ok (.aload_n 0, 1) := by decide +kernel
theorem dJ0_getBytes_840e7_29 : decode cJ0_getBytes_840e7 29 = .ok (.getfield 9, 3) := by decide +kernel
theorem dJ0_getBytes_840e7_32 : decode cJ0_getBytes_840e7 32 = .ok (.iconst 0, 1) := by decide +kernel
theorem dJ0_getBytes_840e7_33 : decode cJ0_getBytes_840e7 33 = .ok (.aload_n 1, 1) := by decide +kernel
theorem dJ0_getBytes_840e7_34 : decode cJ0_getBytes_840e7 34 = .ok (.iload_n 2, 1) := by decide +kernel
theorem dJ0_getBytes_840e7_35 : decode cJ0_getBytes_840e7 35 = .ok (.aload_n 0, 1) := by decide +kernel
theorem dJ0_getBytes_840e7_36 : decode cJ0_getBytes_840e7 36 = .ok (.getfield 9, 3) := by decide +kernel
theorem dJ0_getBytes_840e7_39 : decode cJ0_getBytes_840e7 39 = .ok (.arraylength, 1) := by decide +kernel
theorem dJ0_getBytes_840e7_40 : decode cJ0_getBytes_840e7 40 = .ok (.invokestatic 106, 3) := by decide +kernel
theorem dJ0_getBytes_840e7_43 : decode cJ0_getBytes_840e7 43 = .ok (.return_, 1) := by decide +kernel
theorem dJ0_init_db425_0 : decode cJ0_init_db425 0 = .ok (.aload_n 0, 1) := by decide +kernel
theorem dJ0_init_db425_1 : decode cJ0_init_db425 1 = .ok (.invokespecial 1, 3) := by decide +kernel
theorem dJ0_init_db425_4 : decode cJ0_init_db425 4 = .ok (.aload_n 1, 1) := by decide +kernel
theorem dJ0_init_db425_5 : decode cJ0_init_db425 5 = .ok (.invokevirtual 552, 3) := by decide +kernel
theorem dJ0_init_db425_8 : decode cJ0_init_db425 8 = .ok (.astore_n 3, 1) := by decide +kernel
theorem dJ0_init_db425_9 : decode cJ0_init_db425 9 = .ok (.aload_n 1, 1) := by decide +kernel
theorem dJ0_init_db425_10 : decode cJ0_init_db425 10 = .ok (.invokevirtual 549, 3) := by decide +kernel
theorem dJ0_init_db425_13 : decode cJ0_init_db425 13 = .ok (.istore 4, 2) := by decide +kernel
theorem dJ0_init_db425_15 : decode cJ0_init_db425 15 = .ok (.aload_n 1, 1) := by decide +kernel
theorem dJ0_init_db425_16 : decode cJ0_init_db425 16 = .ok (.invokevirtual 1047, 3) := by decide +kernel
theorem dJ0_init_db425_19 : decode cJ0_init_db425 19 = .ok (.ifCond .eq 22, 3) := by decide +kernel
theorem dJ0_init_db425_22 : decode cJ0_init_db425 22 = .ok (.aload_n 0, 1) := by decide +kernel
theorem dJ0_init_db425_23 : decode cJ0_init_db425 23 = .ok (.iconst 0, 1) := by decide +kernel
theorem dJ0_init_db425_24 : decode cJ0_init_db425 24 = .ok (.putfield 15, 3) := by decide +kernel
theorem dJ0_init_db425_27 : decode cJ0_init_db425 27 = .ok (.aload_n 0, 1) := by decide +kernel
theorem dJ0_init_db425_28 : decode cJ0_init_db425 28 = .ok (.aload_n 3, 1) := by decide +kernel
theorem dJ0_init_db425_29 : decode cJ0_init_db425 29 = .ok (.iconst 0, 1) := by decide +kernel
theorem dJ0_init_db425_30 : decode cJ0_init_db425 30 = .ok (.iload 4, 2) := by decide +kernel
theorem dJ0_init_db425_32 : decode cJ0_init_db425 32 = .ok (.invokestatic 54, 3) := by decide +kernel
theorem dJ0_init_db425_35 : decode cJ0_init_db425 35 = .ok (.putfield 9, 3) := by decide +kernel
theorem dJ0_init_db425_38 : decode cJ0_init_db425 38 = .ok (.goto 59, 3) := by decide +kernel
theorem dJ0_init_db425_41 : decode cJ0_init_db425 41 = .ok (.getstatic 38, 3) := by decide +kernel
theorem dJ0_init_db425_44 : decode cJ0_init_db425 44 = .ok (.ifCond .eq 35, 3) := by decide +kernel
theorem dJ0_init_db425_47 : decode cJ0_init_db425 47 = .ok (.aload_n 1, 1) := by decide +kernel
theorem dJ0_init_db425_48 : decode cJ0_init_db425 48 = .ok (.getfield 1048, 3) := by decide +kernel
theorem dJ0_init_db425_51 : decode cJ0_init_db425 51 = .ok (.ifCond .eq 28, 3) := by decide +kernel
theorem dJ0_init_db425_54 : decode cJ0_init_db425 54 = .ok (.aload_n 0, 1) := by decide +kernel
theorem dJ0_init_db425_55 : decode cJ0_init_db425 55 = .ok (.aload_n 3, 1) := by decide +kernel
theorem dJ0_init_db425_56 : decode cJ0_init_db425 56 = .ok (.iconst 0, 1) := by decide +kernel
theorem dJ0_init_db425_57 : decode cJ0_init_db425 57 = .ok (.iload 4, 2) := by decide +kernel
theorem dJ0_init_db425_59 : decode cJ0_init_db425 59 = .ok (.invokestatic 1051, 3) := by decide +kernel
theorem dJ0_init_db425_62 : decode cJ0_init_db425 62 = .ok (.putfield 9, 3) := by decide +kernel
theorem dJ0_init_db425_65 : decode cJ0_init_db425 65 = .ok (.aload_n 0, 1) := by decide +kernel
theorem dJ0_init_db425_66 : decode cJ0_init_db425 66 = .ok (.aload_n 0, 1) := by decide +kernel
theorem dJ0_init_db425_67 : decode cJ0_init_db425 67 = .ok (.getfield 9, 3) := by decide +kernel
theorem dJ0_init_db425_70 : decode cJ0_init_db425 70 = .ok (.iload 4, 2) := by decide +kernel
theorem dJ0_init_db425_72 : decode cJ0_init_db425 72 = .ok (.invokestatic 47, 3) := by decide +kernel
theorem dJ0_init_db425_75 : decode cJ0_init_db425 75 = .ok (.putfield 15, 3) := by decide +kernel
theorem dJ0_init_db425_78 : decode cJ0_init_db425 78 = .ok (.return_, 1) := by decide +kernel
theorem dJ0_init_db425_79 : decode cJ0_init_db425 79 = .ok (.aload_n 0, 1) := by decide +kernel
theorem dJ0_init_db425_80 : decode cJ0_init_db425 80 = .ok (.iconst 1, 1) := by decide +kernel
theorem dJ0_init_db425_81 : decode cJ0_init_db425 81 = .ok (.putfield 15, 3) := by decide +kernel
theorem dJ0_init_db425_84 : decode cJ0_init_db425 84 = .ok (.aload_n 0, 1) := by decide +kernel
theorem dJ0_init_db425_85 : decode cJ0_init_db425 85 = .ok (.aload_n 3, 1) := by decide +kernel
theorem dJ0_init_db425_86 : decode cJ0_init_db425 86 = .ok (.iconst 0, 1) := by decide +kernel
theorem dJ0_init_db425_87 : decode cJ0_init_db425 87 = .ok (.iload 4, 2) := by decide +kernel
theorem dJ0_init_db425_89 : decode cJ0_init_db425 89 = .ok (.iconst 1, 1) := by decide +kernel
theorem dJ0_init_db425_90 : decode cJ0_init_db425 90 = .ok (.ishl, 1) := by decide +kernel
theorem dJ0_init_db425_91 : decode cJ0_init_db425 91 = .ok (.invokestatic 54, 3) := by decide +kernel
theorem dJ0_init_db425_94 : decode cJ0_init_db425 94 = .ok (.putfield 9, 3) := by decide +kernel
theorem dJ0_init_db425_97 : decode cJ0_init_db425 97 = .ok (.return_, 1) := by decide +kernel
theorem dJ4_init_da8c8_0 : decode cJ4_init_da8c8 0 = .ok (.aload_n 0, 1) := by decide +kernel
theorem dJ4_init_da8c8_1 : decode cJ4_init_da8c8 1 = .ok (.bipush 16, 2) := by decide +kernel
theorem dJ4_init_da8c8_3 : decode cJ4_init_da8c8 3 = .ok (.invokespecial 1, 3) := by decide +kernel
theorem dJ4_init_da8c8_6 : decode cJ4_init_da8c8 6 = .ok (.return_, 1) := by decide +kernel
theorem dJ4_append_15ec4_0 : decode cJ4_append_15ec4 0 = .ok (.aload_n 0, 1) := by decide +kernel
theorem dJ4_append_15ec4_1 : decode cJ4_append_15ec4 1 = .ok (.aload_n 1, 1) := by decide +kernel
theorem dJ4_append_15ec4_2 : decode cJ4_append_15ec4 2 = .ok (.invokespecial 29, 3) := by decide +kernel
theorem dJ4_append_15ec4_5 : decode cJ4_append_15ec4 5 = .ok (.pop, 1) := by decide +kernel
theorem dJ4_append_15ec4_6 : decode cJ4_append_15ec4 6 = .ok (.aload_n 0, 1) := by decide +kernel
theorem dJ4_append_15ec4_7 : decode cJ4_append_15ec4 7 = .ok (.areturn, 1) := by decide +kernel
theorem dJ4_append_bf812_0 : decode cJ4_append_bf812 0 = .ok (.aload_n 0, 1) := by decide +kernel
theorem dJ4_append_bf812_1 : decode cJ4_append_bf812 1 = .ok (.iload_n 1, 1) := by decide +kernel
theorem dJ4_append_bf812_2 : decode cJ4_append_bf812 2 = .ok (.invokespecial 53, 3) := by decide +kernel
theorem dJ4_append_bf812_5 : decode cJ4_append_bf812 5 = .ok (.pop, 1) := by decide +kernel
theorem dJ4_append_bf812_6 : decode cJ4_append_bf812 6 = .ok (.aload_n 0, 1) := by decide +kernel
theorem dJ4_append_bf812_7 : decode cJ4_append_bf812 7 = .ok (.areturn, 1) := by decide +kernel
theorem dJ4_toString_0e30d_0 : decode cJ4_toString_0e30d 0 = .ok (.new 18, 3) := by decide +kernel
theorem dJ4_toString_0e30d_3 : decode cJ4_toString_0e30d 3 = .ok (.dup, 1) := by decide +kernel
theorem dJ4_toString_0e30d_4 : decode cJ4_toString_0e30d 4 = .ok (.aload_n 0, 1) := by decide +kernel
theorem dJ4_toString_0e30d_5 : decode cJ4_toString_0e30d 5 = .ok (.invokespecial 137, 3) := by decide +kernel
theorem dJ4_toString_0e30d_8 : decode cJ4_toString_0e30d 8 = .ok (.areturn, 1) := by decide +kernel
theorem dJ4_length_8abf5_0 : decode cJ4_length_8abf5 0 = .ok (.aload_n 0, 1) := by decide +kernel
theorem dJ4_length_8abf5_1 : decode cJ4_length_8abf5 1 = .ok (.invokespecial 343, 3) := by decide +kernel
theorem dJ4_length_8abf5_4 : decode cJ4_length_8abf5 4 = .ok (.ireturn, 1) := by decide +kernel
theorem dJ7_copyOf_9075b_0 : decode cJ7_copyOf_9075b 0 = .ok (.iload_n 1, 1) := by decide +kernel
theorem dJ7_copyOf_9075b_1 : decode cJ7_copyOf_9075b 1 = .ok (.aload_n 0, 1) := by decide +kernel
theorem dJ7_copyOf_9075b_2 : decode cJ7_copyOf_9075b 2 = .ok (.arraylength, 1) := by decide +kernel
theorem dJ7_copyOf_9075b_3 : decode cJ7_copyOf_9075b 3 = .ok (.if_icmp .ne 11, 3) := by decide +kernel
theorem dJ7_copyOf_9075b_6 : decode cJ7_copyOf_9075b 6 = .ok (.aload_n 0, 1) := by decide +kernel
theorem dJ7_copyOf_9075b_7 : decode cJ7_copyOf_9075b 7 = .ok (.invokevirtual 310, 3) := by decide +kernel
theorem dJ7_copyOf_9075b_10 : decode cJ7_copyOf_9075b 10 = .ok (.checkcast 311, 3) := by decide +kernel
theorem dJ7_copyOf_9075b_13 : decode cJ7_copyOf_9075b 13 = .ok (.areturn, 1) := by decide +kernel
theorem dJ7_copyOf_9075b_14 : decode cJ7_copyOf_9075b 14 = .ok (.iload_n 1, 1) := by decide +kernel
theorem dJ7_copyOf_9075b_15 : decode cJ7_copyOf_9075b 15 = .ok (.newarray .byte, 2) := by decide +kernel
theorem dJ7_copyOf_9075b_17 : decode cJ7_copyOf_9075b 17 = .ok (.astore_n 2, 1) := by decide +kernel
theorem dJ7_copyOf_9075b_18 : decode cJ7_copyOf_9075b 18 = .ok (.aload_n 0, 1) := by decide +kernel
theorem dJ7_copyOf_9075b_19 : decode cJ7_copyOf_9075b 19 = .ok (.iconst 0, 1) := by decide +kernel
theorem dJ7_copyOf_9075b_20 : decode cJ7_copyOf_9075b 20 = .ok (.aload_n 2, 1) := by decide +kernel
theorem dJ7_copyOf_9075b_21 : decode cJ7_copyOf_9075b 21 = .ok (.iconst 0, 1) := by decide +kernel
theorem dJ7_copyOf_9075b_22 : decode cJ7_copyOf_9075b 22 = .ok (.aload_n 0, 1) := by decide +kernel
theorem dJ7_copyOf_9075b_23 : decode cJ7_copyOf_9075b 23 = .ok (.arraylength, 1) := by decide +kernel
theorem dJ7_copyOf_9075b_24 : decode cJ7_copyOf_9075b 24 = .ok (.iload_n 1, 1) := by decide +kernel
theorem dJ7_copyOf_9075b_25 : decode cJ7_copyOf_9075b 25 = .ok (.invokestatic 304, 3) := by decide +kernel
theorem dJ7_copyOf_9075b_28 : decode cJ7_copyOf_9075b 28 = .ok (.invokestatic 150, 3) := by decide +kernel
theorem dJ7_copyOf_9075b_31 : decode cJ7_copyOf_9075b 31 = .ok (.aload_n 2, 1) := by decide +kernel
theorem dJ7_copyOf_9075b_32 : decode cJ7_copyOf_9075b 32 = .ok (.areturn, 1) := by decide +kernel
theorem dJ7_checkLength_df160_0 : decode cJ7_checkLength_df160 0 = .ok (.iload_n 1, 1) := by decide +kernel
theorem dJ7_checkLength_df160_1 : decode cJ7_checkLength_df160 1 = .ok (.iload_n 0, 1) := by decide +kernel
theorem dJ7_checkLength_df160_2 : decode cJ7_checkLength_df160 2 = .ok (.if_icmp .ge 35, 3) := by decide +kernel
theorem dJ7_checkLength_df160_5 : decode cJ7_checkLength_df160 5 = .ok (.new 43, 3) := by decide +kernel
theorem dJ7_checkLength_df160_8 : decode cJ7_checkLength_df160 8 = .ok (.dup, 1) := by decide +kernel
theorem dJ7_checkLength_df160_9 : decode cJ7_checkLength_df160 9 = .ok (.new 45, 3) := by decide +kernel
theorem dJ7_checkLength_df160_12 : decode cJ7_checkLength_df160 12 = .ok (.dup, 1) := by decide +kernel
theorem dJ7_checkLength_df160_13 : decode cJ7_checkLength_df160 13 = .ok (.invokespecial 47, 3) := by decide +kernel
theorem dJ7_checkLength_df160_16 : decode cJ7_checkLength_df160 16 = .ok (.iload_n 0, 1) := by decide +kernel
theorem dJ7_checkLength_df160_17 : decode cJ7_checkLength_df160 17 = .ok (.invokevirtual 54, 3) := by decide +kernel
theorem dJ7_checkLength_df160_20 : decode cJ7_checkLength_df160 20 = .ok (.ldc_w 337, 3) := by decide +kernel
theorem dJ7_checkLength_df160_23 : decode cJ7_checkLength_df160 23 = .ok (.invokevirtual 50, 3) := by decide +kernel
theorem dJ7_checkLength_df160_26 : decode cJ7_checkLength_df160 26 = .ok (.iload_n 1, 1) := by decide +kernel
theorem dJ7_checkLength_df160_27 : decode cJ7_checkLength_df160 27 = .ok (.invokevirtual 54, 3) := by decide +kernel
theorem dJ7_checkLength_df160_30 : decode cJ7_checkLength_df160 30 = .ok (.invokevirtual 61, 3) := by decide +kernel
theorem dJ7_checkLength_df160_33 : decode cJ7_checkLength_df160 33 = .ok (.invokespecial 65, 3) := by decide +kernel
theorem dJ7_checkLength_df160_36 : decode cJ7_checkLength_df160 36 = .ok (.athrow, 1) := by decide +kernel
theorem dJ7_checkLength_df160_37 : decode cJ7_checkLength_df160 37 = .ok (.return_, 1) := by decide +kernel
theorem dJ7_copyOfRange_39247_0 : decode cJ7_copyOfRange_39247 0 = .ok (.iload_n 1, 1) := by decide +kernel
theorem dJ7_copyOfRange_39247_1 : decode cJ7_copyOfRange_39247 1 = .ok (.ifCond .ne 9, 3) := by decide +kernel
theorem dJ7_copyOfRange_39247_4 : decode cJ7_copyOfRange_39247 4 = .ok (.iload_n 2, 1) := by decide +kernel
theorem dJ7_copyOfRange_39247_5 : decode cJ7_copyOfRange_39247 5 = .ok (.aload_n 0, 1) := by decide +kernel
theorem dJ7_copyOfRange_39247_6 : decode cJ7_copyOfRange_39247 6 = .ok (.arraylength, 1) := by decide +kernel
theorem dJ7_copyOfRange_39247_7 : decode cJ7_copyOfRange_39247 7 = .ok (.if_icmp .eq 10, 3) := by decide +kernel
theorem dJ7_copyOfRange_39247_10 : decode cJ7_copyOfRange_39247 10 = .ok (.aload_n 0, 1) := by decide +kernel
theorem dJ7_copyOfRange_39247_11 : decode cJ7_copyOfRange_39247 11 = .ok (.iload_n 1, 1) := by decide +kernel
theorem dJ7_copyOfRange_39247_12 : decode cJ7_copyOfRange_39247 12 = .ok (.iload_n 2, 1) := by decide +kernel
theorem dJ7_copyOfRange_39247_13 : decode cJ7_copyOfRange_39247 13 = .ok (.invokestatic 339, 3) := by decide +kernel
theorem dJ7_copyOfRange_39247_16 : decode cJ7_copyOfRange_39247 16 = .ok (.areturn, 1) := by decide +kernel
theorem dJ7_copyOfRange_39247_17 : decode cJ7_copyOfRange_39247 17 = .ok (.aload_n 0, 1) := by decide +kernel
theorem dJ7_copyOfRange_39247_18 : decode cJ7_copyOfRange_39247 18 = .ok (.invokevirtual 310, 3) := by decide +kernel
theorem dJ7_copyOfRange_39247_21 : decode cJ7_copyOfRange_39247 21 = .ok (.checkcast 311, 3) := by decide +kernel
theorem dJ7_copyOfRange_39247_24 : decode cJ7_copyOfRange_39247 24 = .ok (.areturn, 1) := by decide +kernel
theorem dJ7_copyOfRangeByte_39247_0 : decode cJ7_copyOfRangeByte_39247 0 = .ok (.iload_n 1, 1) := by decide +kernel
theorem dJ7_copyOfRangeByte_39247_1 : decode cJ7_copyOfRangeByte_39247 1 = .ok (.iload_n 2, 1) := by decide +kernel
theorem dJ7_copyOfRangeByte_39247_2 : decode cJ7_copyOfRangeByte_39247 2 = .ok (.invokestatic 343, 3) := by decide +kernel
theorem dJ7_copyOfRangeByte_39247_5 : decode cJ7_copyOfRangeByte_39247 5 = .ok (.iload_n 2, 1) := by decide +kernel
theorem dJ7_copyOfRangeByte_39247_6 : decode cJ7_copyOfRangeByte_39247 6 = .ok (.iload_n 1, 1) := by decide +kernel
theorem dJ7_copyOfRangeByte_39247_7 : decode cJ7_copyOfRangeByte_39247 7 = .ok (.isub, 1) := by decide +kernel
theorem dJ7_copyOfRangeByte_39247_8 : decode cJ7_copyOfRangeByte_39247 8 = .ok (.istore_n 3, 1) := by decide +kernel
theorem dJ7_copyOfRangeByte_39247_9 : decode cJ7_copyOfRangeByte_39247 9 = .ok (.iload_n 3, 1) := by decide +kernel
theorem dJ7_copyOfRangeByte_39247_10 : decode cJ7_copyOfRangeByte_39247 10 = .ok (.newarray .byte, 2) := by decide +kernel
theorem dJ7_copyOfRangeByte_39247_12 : decode cJ7_copyOfRangeByte_39247 12 = .ok (.astore 4, 2) := by decide +kernel
theorem dJ7_copyOfRangeByte_39247_14 : decode cJ7_copyOfRangeByte_39247 14 = .ok (.aload_n 0, 1) := by decide +kernel
theorem dJ7_copyOfRangeByte_39247_15 : decode cJ7_copyOfRangeByte_39247 15 = .ok (.iload_n 1, 1) := by decide +kernel
theorem dJ7_copyOfRangeByte_39247_16 : decode cJ7_copyOfRangeByte_39247 16 = .ok (.aload 4, 2) := by decide +kernel
theorem dJ7_copyOfRangeByte_39247_18 : decode cJ7_copyOfRangeByte_39247 18 = .ok (.iconst 0, 1) := by decide +kernel
theorem dJ7_copyOfRangeByte_39247_19 : decode cJ7_copyOfRangeByte_39247 19 = .ok (.aload_n 0, 1) := by decide +kernel
theorem dJ7_copyOfRangeByte_39247_20 : decode cJ7_copyOfRangeByte_39247 20 = .ok (.arraylength, 1) := by decide +kernel
theorem dJ7_copyOfRangeByte_39247_21 : decode cJ7_copyOfRangeByte_39247 21 = .ok (.iload_n 1, 1) := by decide +kernel
theorem dJ7_copyOfRangeByte_39247_22 : decode cJ7_copyOfRangeByte_39247 22 = .ok (.isub, 1) := by decide +kernel
theorem dJ7_copyOfRangeByte_39247_23 : decode cJ7_copyOfRangeByte_39247 23 = .ok (.iload_n 3, 1) := by decide +kernel
theorem dJ7_copyOfRangeByte_39247_24 : decode cJ7_copyOfRangeByte_39247 24 = .ok (.invokestatic 304, 3) := by decide +kernel
theorem dJ7_copyOfRangeByte_39247_27 : decode cJ7_copyOfRangeByte_39247 27 = .ok (.invokestatic 150, 3) := by decide +kernel
theorem dJ7_copyOfRangeByte_39247_30 : decode cJ7_copyOfRangeByte_39247 30 = .ok (.aload 4, 2) := by decide +kernel
theorem dJ7_copyOfRangeByte_39247_32 : decode cJ7_copyOfRangeByte_39247 32 = .ok (.areturn, 1) := by decide +kernel
theorem dJ8_newLength_cabcc_0 : decode cJ8_newLength_cabcc 0 = .ok (.iload_n 0, 1) := by decide +kernel
theorem dJ8_newLength_cabcc_1 : decode cJ8_newLength_cabcc 1 = .ok (.iload_n 1, 1) := by decide +kernel
theorem dJ8_newLength_cabcc_2 : decode cJ8_newLength_cabcc 2 = .ok (.iload_n 2, 1) := by decide +kernel
theorem dJ8_newLength_cabcc_3 : decode cJ8_newLength_cabcc 3 = .ok (.invokestatic 194, 3) := by decide +kernel
theorem dJ8_newLength_cabcc_6 : decode cJ8_newLength_cabcc 6 = .ok (.iadd, 1) := by decide +kernel
theorem dJ8_newLength_cabcc_7 : decode cJ8_newLength_cabcc 7 = .ok (.istore_n 3, 1) := by decide +kernel
theorem dJ8_newLength_cabcc_8 : decode cJ8_newLength_cabcc 8 = .ok (.iconst 0, 1) := by decide +kernel
theorem dJ8_newLength_cabcc_9 : decode cJ8_newLength_cabcc 9 = .ok (.iload_n 3, 1) := by decide +kernel
theorem dJ8_newLength_cabcc_10 : decode cJ8_newLength_cabcc 10 = .ok (.if_icmp .ge 11, 3) := by decide +kernel
theorem dJ8_newLength_cabcc_13 : decode cJ8_newLength_cabcc 13 = .ok (.iload_n 3, 1) := by decide +kernel
theorem dJ8_newLength_cabcc_14 : decode cJ8_newLength_cabcc 14 = .ok (.ldc 200, 2) := by decide +kernel
theorem dJ8_newLength_cabcc_16 : decode cJ8_newLength_cabcc 16 = .ok (.if_icmp .gt 5, 3) := by decide +kernel
theorem dJ8_newLength_cabcc_19 : decode cJ8_newLength_cabcc 19 = .ok (.iload_n 3, 1) := by decide +kernel
theorem dJ8_newLength_cabcc_20 : decode cJ8_newLength_cabcc 20 = .ok (.ireturn, 1) := by decide +kernel
theorem dJ8_newLength_cabcc_21 : decode cJ8_newLength_cabcc 21 = .ok (.iload_n 0, 1) := by decide +kernel
theorem dJ8_newLength_cabcc_22 : decode cJ8_newLength_cabcc 22 = .ok (.iload_n 1, 1) := by decide +kernel
theorem dJ8_newLength_cabcc_23 : decode cJ8_newLength_cabcc 23 = .ok (.invokestatic 201, 3) := by decide +kernel
theorem dJ8_newLength_cabcc_26 : decode cJ8_newLength_cabcc 26 = .ok (.ireturn, 1) := by decide +kernel
theorem dJ0_coder_7d493_0 : decode cJ0_coder_7d493 0 = .ok (.getstatic 38, 3) := by decide +kernel
theorem dJ0_coder_7d493_3 : decode cJ0_coder_7d493 3 = .ok (.ifCond .eq 10, 3) := by decide +kernel
theorem dJ0_coder_7d493_6 : decode cJ0_coder_7d493 6 = .ok (.aload_n 0, 1) := by decide +kernel
theorem dJ0_coder_7d493_7 : decode cJ0_coder_7d493 7 = .ok (.getfield 15, 3) := by decide +kernel
theorem dJ0_coder_7d493_10 : decode cJ0_coder_7d493 10 = .ok (.goto 4, 3) := by decide +kernel
theorem dJ0_coder_7d493_13 : decode cJ0_coder_7d493 13 = .ok (.iconst 1, 1) := by decide +kernel
theorem dJ0_coder_7d493_14 : decode cJ0_coder_7d493 14 = .ok (.ireturn, 1) := by decide +kernel
theorem dJ0_isLatin1_aae02_0 : decode cJ0_isLatin1_aae02 0 = .ok (.getstatic 38, 3) := by decide +kernel
theorem dJ0_isLatin1_aae02_3 : decode cJ0_isLatin1_aae02 3 = .ok (.ifCond .eq 14, 3) := by decide +kernel
theorem dJ0_isLatin1_aae02_6 : decode cJ0_isLatin1_aae02 6 = .ok (.aload_n 0, 1) := by decide +kernel
theorem dJ0_isLatin1_aae02_7 : decode cJ0_isLatin1_aae02 7 = .ok (.getfield 15, 3) := by decide +kernel
theorem dJ0_isLatin1_aae02_10 : decode cJ0_isLatin1_aae02 10 = .ok (.ifCond .ne 7, 3) := by decide +kernel
theorem dJ0_isLatin1_aae02_13 : decode cJ0_isLatin1_aae02 13 = .ok (.iconst 1, 1) := by decide +kernel
theorem dJ0_isLatin1_aae02_14 : decode cJ0_isLatin1_aae02 14 = .ok (.goto 4, 3) := by decide +kernel
theorem dJ0_isLatin1_aae02_17 : decode cJ0_isLatin1_aae02 17 = .ok (.iconst 0, 1) := by decide +kernel
theorem dJ0_isLatin1_aae02_18 : decode cJ0_isLatin1_aae02 18 = .ok (.ireturn, 1) := by decide +kernel
theorem dJ0_length_8abf5_0 : decode cJ0_length_8abf5 0 = .ok (.aload_n 0, 1) := by decide +kernel
theorem dJ0_length_8abf5_1 : decode cJ0_length_8abf5 1 = .ok (.getfield 9, 3) := by decide +kernel
theorem dJ0_length_8abf5_4 : decode cJ0_length_8abf5 4 = .ok (.arraylength, 1) := by decide +kernel
theorem dJ0_length_8abf5_5 : decode cJ0_length_8abf5 5 = .ok (.aload_n 0, 1) := by decide +kernel
theorem dJ0_length_8abf5_6 : decode cJ0_length_8abf5 6 = .ok (.invokevirtual 335, 3) := by decide +kernel
theorem dJ0_length_8abf5_9 : decode cJ0_length_8abf5 9 = .ok (.ishr, 1) := by decide +kernel
theorem dJ0_length_8abf5_10 : decode cJ0_length_8abf5 10 = .ok (.ireturn, 1) := by decide +kernel
theorem dJ0_charAt_5068e_0 : decode cJ0_charAt_5068e 0 = .ok (.aload_n 0, 1) := by decide +kernel
theorem dJ0_charAt_5068e_1 : decode cJ0_charAt_5068e 1 = .ok (.invokevirtual 492, 3) := by decide +kernel
theorem dJ0_charAt_5068e_4 : decode cJ0_charAt_5068e 4 = .ok (.ifCond .eq 12, 3) := by decide +kernel
theorem dJ0_charAt_5068e_7 : decode cJ0_charAt_5068e 7 = .ok (.aload_n 0, 1) := by decide +kernel
theorem dJ0_charAt_5068e_8 : decode cJ0_charAt_5068e 8 = .ok (.getfield 9, 3) := by decide +kernel
theorem dJ0_charAt_5068e_11 : decode cJ0_charAt_5068e 11 = .ok (.iload_n 1, 1) := by decide +kernel
theorem dJ0_charAt_5068e_12 : decode cJ0_charAt_5068e 12 = .ok (.invokestatic 495, 3) := by decide +kernel
theorem dJ0_charAt_5068e_15 : decode cJ0_charAt_5068e 15 = .ok (.ireturn, 1) := by decide +kernel
theorem dJ0_charAt_5068e_16 : decode cJ0_charAt_5068e 16 = .ok (.aload_n 0, 1) := by decide +kernel
theorem dJ0_charAt_5068e_17 : decode cJ0_charAt_5068e 17 = .ok (.getfield 9, 3) := by decide +kernel
theorem dJ0_charAt_5068e_20 : decode cJ0_charAt_5068e 20 = .ok (.iload_n 1, 1) := by decide +kernel
theorem dJ0_charAt_5068e_21 : decode cJ0_charAt_5068e 21 = .ok (.invokestatic 498, 3) := by decide +kernel
theorem dJ0_charAt_5068e_24 : decode cJ0_charAt_5068e 24 = .ok (.ireturn, 1) := by decide +kernel
theorem dJ0_indexOf_0f7a4_0 : decode cJ0_indexOf_0f7a4 0 = .ok (.aload_n 0, 1) := by decide +kernel
theorem dJ0_indexOf_0f7a4_1 : decode cJ0_indexOf_0f7a4 1 = .ok (.iload_n 1, 1) := by decide +kernel
theorem dJ0_indexOf_0f7a4_2 : decode cJ0_indexOf_0f7a4 2 = .ok (.iconst 0, 1) := by decide +kernel
theorem dJ0_indexOf_0f7a4_3 : decode cJ0_indexOf_0f7a4 3 = .ok (.invokevirtual 633, 3) := by decide +kernel
theorem dJ0_indexOf_0f7a4_6 : decode cJ0_indexOf_0f7a4 6 = .ok (.ireturn, 1) := by decide +kernel
theorem dJ0_indexOf_7cf53_0 : decode cJ0_indexOf_7cf53 0 = .ok (.aload_n 0, 1) := by decide +kernel
theorem dJ0_indexOf_7cf53_1 : decode cJ0_indexOf_7cf53 1 = .ok (.invokevirtual 492, 3) := by decide +kernel
theorem dJ0_indexOf_7cf53_4 : decode cJ0_indexOf_7cf53 4 = .ok (.ifCond .eq 19, 3) := by decide +kernel
theorem dJ0_indexOf_7cf53_7 : decode cJ0_indexOf_7cf53 7 = .ok (.aload_n 0, 1) := by decide +kernel
theorem dJ0_indexOf_7cf53_8 : decode cJ0_indexOf_7cf53 8 = .ok (.getfield 9, 3) := by decide +kernel
theorem dJ0_indexOf_7cf53_11 : decode cJ0_indexOf_7cf53 11 = .ok (.iload_n 1, 1) := by decide +kernel
theorem dJ0_indexOf_7cf53_12 : decode cJ0_indexOf_7cf53 12 = .ok (.iload_n 2, 1) := by decide +kernel
theorem dJ0_indexOf_7cf53_13 : decode cJ0_indexOf_7cf53 13 = .ok (.aload_n 0, 1) := by decide +kernel
theorem dJ0_indexOf_7cf53_14 : decode cJ0_indexOf_7cf53 14 = .ok (.invokevirtual 505, 3) := by decide +kernel
theorem dJ0_indexOf_7cf53_17 : decode cJ0_indexOf_7cf53 17 = .ok (.invokestatic 637, 3) := by decide +kernel
theorem dJ0_indexOf_7cf53_20 : decode cJ0_indexOf_7cf53 20 = .ok (.goto 16, 3) := by decide +kernel
theorem dJ0_indexOf_7cf53_23 : decode cJ0_indexOf_7cf53 23 = .ok (.aload_n 0, 1) := by decide +kernel
theorem dJ0_indexOf_7cf53_24 : decode cJ0_indexOf_7cf53 24 = .ok (.getfield 9, 3) := by decide +kernel
theorem dJ0_indexOf_7cf53_27 : decode cJ0_indexOf_7cf53 27 = .ok (.iload_n 1, 1) := by decide +kernel
theorem dJ0_indexOf_7cf53_28 : decode cJ0_indexOf_7cf53 28 = .ok (.iload_n 2, 1) := by decide +kernel
theorem dJ0_indexOf_7cf53_29 : decode cJ0_indexOf_7cf53 29 = .ok (.aload_n 0, 1) := by decide +kernel
theorem dJ0_indexOf_7cf53_30 : decode cJ0_indexOf_7cf53 30 = .ok (.invokevirtual 505, 3) := by decide +kernel
theorem dJ0_indexOf_7cf53_33 : decode cJ0_indexOf_7cf53 33 = .ok (.invokestatic 640, 3) := by decide +kernel
theorem dJ0_indexOf_7cf53_36 : decode cJ0_indexOf_7cf53 36 = .ok (.ireturn, 1) := by decide +kernel
theorem dJ0_checkIndex_df160_0 : decode cJ0_checkIndex_df160 0 = .ok (.iload_n 0, 1) := by decide +kernel
theorem dJ0_checkIndex_df160_1 : decode cJ0_checkIndex_df160 1 = .ok (.iload_n 1, 1) := by decide +kernel
theorem dJ0_checkIndex_df160_2 : decode cJ0_checkIndex_df160 2 = .ok (.getstatic 1053, 3) := by decide +kernel
theorem dJ0_checkIndex_df160_5 : decode cJ0_checkIndex_df160 5 = .ok (.invokestatic 1059, 3) := by decide +kernel
theorem dJ0_checkIndex_df160_8 : decode cJ0_checkIndex_df160 8 = .ok (.pop, 1) := by decide +kernel
theorem dJ0_checkIndex_df160_9 : decode cJ0_checkIndex_df160 9 = .ok (.return_, 1) := by decide +kernel
theorem dJ1_charAt_3b067_0 : decode cJ1_charAt_3b067 0 = .ok (.iload_n 1, 1) := by decide +kernel
theorem dJ1_charAt_3b067_1 : decode cJ1_charAt_3b067 1 = .ok (.aload_n 0, 1) := by decide +kernel
theorem dJ1_charAt_3b067_2 : decode cJ1_charAt_3b067 2 = .ok (.arraylength, 1) := by decide +kernel
theorem dJ1_charAt_3b067_3 : decode cJ1_charAt_3b067 3 = .ok (.invokestatic 9, 3) := by decide +kernel
theorem dJ1_charAt_3b067_6 : decode cJ1_charAt_3b067 6 = .ok (.aload_n 0, 1) := by decide +kernel
theorem dJ1_charAt_3b067_7 : decode cJ1_charAt_3b067 7 = .ok (.iload_n 1, 1) := by decide +kernel
theorem dJ1_charAt_3b067_8 : decode cJ1_charAt_3b067 8 = .ok (.baload, 1) := by decide +kernel
theorem dJ1_charAt_3b067_9 : decode cJ1_charAt_3b067 9 = .ok (.sipush 255, 3) := by decide +kernel
theorem dJ1_charAt_3b067_12 : decode cJ1_charAt_3b067 12 = .ok (.iand, 1) := by decide +kernel
theorem dJ1_charAt_3b067_13 : decode cJ1_charAt_3b067 13 = .ok (.i2c, 1) := by decide +kernel
theorem dJ1_charAt_3b067_14 : decode cJ1_charAt_3b067 14 = .ok (.ireturn, 1) := by decide +kernel
theorem dJ1_canEncode_9a6ad_0 : decode cJ1_canEncode_9a6ad 0 = .ok (.iload_n 0, 1) := by decide +kernel
theorem dJ1_canEncode_9a6ad_1 : decode cJ1_canEncode_9a6ad 1 = .ok (.ifCond .lt 14, 3) := by decide +kernel
theorem dJ1_canEncode_9a6ad_4 : decode cJ1_canEncode_9a6ad 4 = .ok (.iload_n 0, 1) := by decide +kernel
theorem dJ1_canEncode_9a6ad_5 : decode cJ1_canEncode_9a6ad 5 = .ok (.sipush 255, 3) := by decide +kernel
theorem dJ1_canEncode_9a6ad_8 : decode cJ1_canEncode_9a6ad 8 = .ok (.if_icmp .gt 7, 3) := by decide +kernel
theorem dJ1_canEncode_9a6ad_11 : decode cJ1_canEncode_9a6ad 11 = .ok (.iconst 1, 1) := by decide +kernel
theorem dJ1_canEncode_9a6ad_12 : decode cJ1_canEncode_9a6ad 12 = .ok (.goto 4, 3) := by decide +kernel
theorem dJ1_canEncode_9a6ad_15 : decode cJ1_canEncode_9a6ad 15 = .ok (.iconst 0, 1) := by decide +kernel
theorem dJ1_canEncode_9a6ad_16 : decode cJ1_canEncode_9a6ad 16 = .ok (.ireturn, 1) := by decide +kernel
theorem dJ1_indexOf_4cfef_0 : decode cJ1_indexOf_4cfef 0 = .ok (.iload_n 1, 1) := by decide +kernel
theorem dJ1_indexOf_4cfef_1 : decode cJ1_indexOf_4cfef 1 = .ok (.invokestatic 88, 3) := by decide +kernel
theorem dJ1_indexOf_4cfef_4 : decode cJ1_indexOf_4cfef 4 = .ok (.ifCond .ne 5, 3) := by decide +kernel
theorem dJ1_indexOf_4cfef_7 : decode cJ1_indexOf_4cfef 7 = .ok (.iconst (-1), 1) := by decide +kernel
theorem dJ1_indexOf_4cfef_8 : decode cJ1_indexOf_4cfef 8 = .ok (.ireturn, 1) := by decide +kernel
theorem dJ1_indexOf_4cfef_9 : decode cJ1_indexOf_4cfef 9 = .ok (.iload_n 2, 1) := by decide +kernel
theorem dJ1_indexOf_4cfef_10 : decode cJ1_indexOf_4cfef 10 = .ok (.iconst 0, 1) := by decide +kernel
theorem dJ1_indexOf_4cfef_11 : decode cJ1_indexOf_4cfef 11 = .ok (.invokestatic 92, 3) := by decide +kernel
theorem dJ1_indexOf_4cfef_14 : decode cJ1_indexOf_4cfef 14 = .ok (.istore_n 2, 1) := by decide +kernel
theorem dJ1_indexOf_4cfef_15 : decode cJ1_indexOf_4cfef 15 = .ok (.iload_n 3, 1) := by decide +kernel
theorem dJ1_indexOf_4cfef_16 : decode cJ1_indexOf_4cfef 16 = .ok (.aload_n 0, 1) := by decide +kernel
theorem dJ1_indexOf_4cfef_17 : decode cJ1_indexOf_4cfef 17 = .ok (.arraylength, 1) := by decide +kernel
theorem dJ1_indexOf_4cfef_18 : decode cJ1_indexOf_4cfef 18 = .ok (.invokestatic 38, 3) := by decide +kernel
theorem dJ1_indexOf_4cfef_21 : decode cJ1_indexOf_4cfef 21 = .ok (.istore_n 3, 1) := by decide +kernel
theorem dJ1_indexOf_4cfef_22 : decode cJ1_indexOf_4cfef 22 = .ok (.iload_n 2, 1) := by decide +kernel
theorem dJ1_indexOf_4cfef_23 : decode cJ1_indexOf_4cfef 23 = .ok (.iload_n 3, 1) := by decide +kernel
theorem dJ1_indexOf_4cfef_24 : decode cJ1_indexOf_4cfef 24 = .ok (.if_icmp .lt 5, 3) := by decide +kernel
theorem dJ1_indexOf_4cfef_27 : decode cJ1_indexOf_4cfef 27 = .ok (.iconst (-1), 1) := by decide +kernel
theorem dJ1_indexOf_4cfef_28 : decode cJ1_indexOf_4cfef 28 = .ok (.ireturn, 1) := by decide +kernel
theorem dJ1_indexOf_4cfef_29 : decode cJ1_indexOf_4cfef 29 = .ok (.aload_n 0, 1) := by decide +kernel
theorem dJ1_indexOf_4cfef_30 : decode cJ1_indexOf_4cfef 30 = .ok (.iload_n 1, 1) := by decide +kernel
theorem dJ1_indexOf_4cfef_31 : decode cJ1_indexOf_4cfef 31 = .ok (.iload_n 2, 1) := by decide +kernel
theorem dJ1_indexOf_4cfef_32 : decode cJ1_indexOf_4cfef 32 = .ok (.iload_n 3, 1) := by decide +kernel
theorem dJ1_indexOf_4cfef_33 : decode cJ1_indexOf_4cfef 33 = .ok (.invokestatic 95, 3) := by decide +kernel
theorem dJ1_indexOf_4cfef_36 : decode cJ1_indexOf_4cfef 36 = .ok (.ireturn, 1) := by decide +kernel
theorem dJ1_indexOfChar_4cfef_0 : decode cJ1_indexOfChar_4cfef 0 = .ok (.iload_n 1, 1) := by decide +kernel
theorem dJ1_indexOfChar_4cfef_1 : decode cJ1_indexOfChar_4cfef 1 = .ok (.i2b, 1) := by decide +kernel
theorem dJ1_indexOfChar_4cfef_2 : decode cJ1_indexOfChar_4cfef 2 = .ok (.istore 4, 2) := by decide +kernel
theorem dJ1_indexOfChar_4cfef_4 : decode cJ1_indexOfChar_4cfef 4 = .ok (.iload_n 2, 1) := by decide +kernel
theorem dJ1_indexOfChar_4cfef_5 : decode cJ1_indexOfChar_4cfef 5 = .ok (.istore 5, 2) := by decide +kernel
theorem dJ1_indexOfChar_4cfef_7 : decode cJ1_indexOfChar_4cfef 7 = .ok (.iload 5, 2) := by decide +kernel
theorem dJ1_indexOfChar_4cfef_9 : decode cJ1_indexOfChar_4cfef 9 = .ok (.iload_n 3, 1) := by decide +kernel
theorem dJ1_indexOfChar_4cfef_10 : decode cJ1_indexOfChar_4cfef 10 = .ok (.if_icmp .ge 21, 3) := by decide +kernel
theorem dJ1_indexOfChar_4cfef_13 : decode cJ1_indexOfChar_4cfef 13 = .ok (.aload_n 0, 1) := by decide +kernel
theorem dJ1_indexOfChar_4cfef_14 : decode cJ1_indexOfChar_4cfef 14 = .ok (.iload 5, 2) := by decide +kernel
theorem dJ1_indexOfChar_4cfef_16 : decode cJ1_indexOfChar_4cfef 16 = .ok (.baload, 1) := by decide +kernel
theorem dJ1_indexOfChar_4cfef_17 : decode cJ1_indexOfChar_4cfef 17 = .ok (.iload 4, 2) := by decide +kernel
theorem dJ1_indexOfChar_4cfef_19 : decode cJ1_indexOfChar_4cfef 19 = .ok (.if_icmp .ne 6, 3) := by decide +kernel
theorem dJ1_indexOfChar_4cfef_22 : decode cJ1_indexOfChar_4cfef 22 = .ok (.iload 5, 2) := by decide +kernel
theorem dJ1_indexOfChar_4cfef_24 : decode cJ1_indexOfChar_4cfef 24 = .ok (.ireturn, 1) := by decide +kernel
theorem dJ1_indexOfChar_4cfef_25 : decode cJ1_indexOfChar_4cfef 25 = .ok (.iinc 5 1, 3) := by decide +kernel
theorem dJ1_indexOfChar_4cfef_28 : decode cJ1_indexOfChar_4cfef 28 = .ok (.goto (-21), 3) := by decide +kernel
theorem dJ1_indexOfChar_4cfef_31 : decode cJ1_indexOfChar_4cfef 31 = .ok (.iconst (-1), 1) := by decide +kernel
theorem dJ1_indexOfChar_4cfef_32 : decode cJ1_indexOfChar_4cfef 32 = .ok (.ireturn, 1) := by decide +kernel
theorem dJ3_checkIndex_8e157_0 : decode cJ3_checkIndex_8e157 0 = .ok (.iload_n 0, 1) := by decide +kernel
theorem dJ3_checkIndex_8e157_1 : decode cJ3_checkIndex_8e157 1 = .ok (.ifCond .lt 8, 3) := by decide +kernel
theorem dJ3_checkIndex_8e157_4 : decode cJ3_checkIndex_8e157 4 = .ok (.iload_n 0, 1) := by decide +kernel
theorem dJ3_checkIndex_8e157_5 : decode cJ3_checkIndex_8e157 5 = .ok (.iload_n 1, 1) := by decide +kernel
theorem dJ3_checkIndex_8e157_6 : decode cJ3_checkIndex_8e157 6 = .ok (.if_icmp .lt 10, 3) := by decide +kernel
theorem dJ3_checkIndex_8e157_9 : decode cJ3_checkIndex_8e157 9 = .ok (.aload_n 2, 1) := by decide +kernel
theorem dJ3_checkIndex_8e157_10 : decode cJ3_checkIndex_8e157 10 = .ok (.iload_n 0, 1) := by decide +kernel
theorem dJ3_checkIndex_8e157_11 : decode cJ3_checkIndex_8e157 11 = .ok (.iload_n 1, 1) := by decide +kernel
theorem dJ3_checkIndex_8e157_12 : decode cJ3_checkIndex_8e157 12 = .ok (.invokestatic 95, 3) := by decide +kernel
theorem dJ3_checkIndex_8e157_15 : decode cJ3_checkIndex_8e157 15 = .ok (.athrow, 1) := by decide +kernel
theorem dJ3_checkIndex_8e157_16 : decode cJ3_checkIndex_8e157 16 = .ok (.iload_n 0, 1) := by decide +kernel
theorem dJ3_checkIndex_8e157_17 : decode cJ3_checkIndex_8e157 17 = .ok (.ireturn, 1) := by decide +kernel
