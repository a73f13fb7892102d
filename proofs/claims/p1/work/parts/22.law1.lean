theorem qw_667 : Cond.methodLink RL 95 yX11_improveAll ∈ wsL_law := tseg_4 (by decide +kernel) (List.mem_of_getElem? (i := 4) (by decide +kernel))
theorem qw_668 : Cond.instanceMethod yX11_improveAll ∈ wsL_law := tseg_4 (by decide +kernel) (List.mem_of_getElem? (i := 5) (by decide +kernel))
theorem qw_669 : Cond.selects RX11 yX11_improveAll yX11_improveAll ∈ wsL_law := tseg_4 (by decide +kernel) (List.mem_of_getElem? (i := 6) (by decide +kernel))
theorem qw_670 : Cond.code yX11_improveAll cX11_improveAll 4 (some .int) ∈ wsL_law := tseg_4 (by decide +kernel) (List.mem_of_getElem? (i := 7) (by decide +kernel))
theorem qw_671 : Cond.methodLink RL 98 yX12_improveAll ∈ wsL_law := tseg_6 (by decide +kernel) (List.mem_of_getElem? (i := 222) (by decide +kernel))
theorem qw_672 : Cond.instanceMethod yX12_improveAll ∈ wsL_law := tseg_6 (by decide +kernel) (List.mem_of_getElem? (i := 223) (by decide +kernel))
theorem qw_673 : Cond.selects RX12 yX12_improveAll yX12_improveAll ∈ wsL_law := tseg_6 (by decide +kernel) (List.mem_of_getElem? (i := 224) (by decide +kernel))
theorem qw_674 : Cond.code yX12_improveAll cX12_improveAll 2 (some .int) ∈ wsL_law := tseg_6 (by decide +kernel) (List.mem_of_getElem? (i := 225) (by decide +kernel))
theorem qw_675 : Cond.methodLink RL 99 yX11_hold ∈ wsL_law := tseg_4 (by decide +kernel) (List.mem_of_getElem? (i := 9) (by decide +kernel))
theorem qw_676 : Cond.instanceMethod yX11_hold ∈ wsL_law := tseg_4 (by decide +kernel) (List.mem_of_getElem? (i := 10) (by decide +kernel))
theorem qw_677 : Cond.selects RX11 yX11_hold yX11_hold ∈ wsL_law := tseg_4 (by decide +kernel) (List.mem_of_getElem? (i := 11) (by decide +kernel))
theorem qw_678 : Cond.code yX11_hold cX11_hold 3 (some .int) ∈ wsL_law := tseg_4 (by decide +kernel) (List.mem_of_getElem? (i := 12) (by decide +kernel))
theorem qw_679 : Cond.methodLink RL 102 yX12_hold ∈ wsL_law := tseg_6 (by decide +kernel) (List.mem_of_getElem? (i := 226) (by decide +kernel))
theorem qw_680 : Cond.instanceMethod yX12_hold ∈ wsL_law := tseg_6 (by decide +kernel) (List.mem_of_getElem? (i := 227) (by decide +kernel))
theorem qw_681 : Cond.selects RX12 yX12_hold yX12_hold ∈ wsL_law := tseg_6 (by decide +kernel) (List.mem_of_getElem? (i := 228) (by decide +kernel))
theorem qw_682 : Cond.code yX12_hold cX12_hold 3 (some .int) ∈ wsL_law := tseg_6 (by decide +kernel) (List.mem_of_getElem? (i := 229) (by decide +kernel))
theorem qw_683 : Cond.methodLink RL 103 yX11_free ∈ wsL_law := tseg_4 (by decide +kernel) (List.mem_of_getElem? (i := 26) (by decide +kernel))
theorem qw_684 : Cond.instanceMethod yX11_free ∈ wsL_law := tseg_4 (by decide +kernel) (List.mem_of_getElem? (i := 27) (by decide +kernel))
theorem qw_685 : Cond.selects RX11 yX11_free yX11_free ∈ wsL_law := tseg_4 (by decide +kernel) (List.mem_of_getElem? (i := 28) (by decide +kernel))
theorem qw_686 : Cond.code yX11_free cX11_free 2 (some .int) ∈ wsL_law := tseg_4 (by decide +kernel) (List.mem_of_getElem? (i := 29) (by decide +kernel))
theorem qw_687 : Cond.methodLink RL 106 yX12_free ∈ wsL_law := tseg_6 (by decide +kernel) (List.mem_of_getElem? (i := 238) (by decide +kernel))
theorem qw_688 : Cond.instanceMethod yX12_free ∈ wsL_law := tseg_6 (by decide +kernel) (List.mem_of_getElem? (i := 239) (by decide +kernel))
theorem qw_689 : Cond.selects RX12 yX12_free yX12_free ∈ wsL_law := tseg_7 (by decide +kernel) (List.mem_of_getElem? (i := 0) (by decide +kernel))
theorem qw_690 : Cond.code yX12_free cX12_free 2 (some .int) ∈ wsL_law := tseg_7 (by decide +kernel) (List.mem_of_getElem? (i := 1) (by decide +kernel))
theorem qw_691 : Cond.methodLink RL 107 yX11_weigh ∈ wsL_law := tseg_4 (by decide +kernel) (List.mem_of_getElem? (i := 30) (by decide +kernel))
theorem qw_692 : Cond.instanceMethod yX11_weigh ∈ wsL_law := tseg_4 (by decide +kernel) (List.mem_of_getElem? (i := 31) (by decide +kernel))
theorem qw_693 : Cond.selects RX11 yX11_weigh yX11_weigh ∈ wsL_law := tseg_4 (by decide +kernel) (List.mem_of_getElem? (i := 32) (by decide +kernel))
theorem qw_694 : Cond.code yX11_weigh cX11_weigh 5 (some .int) ∈ wsL_law := tseg_4 (by decide +kernel) (List.mem_of_getElem? (i := 33) (by decide +kernel))
theorem qw_695 : Cond.methodLink RL 110 yX12_weigh ∈ wsL_law := tseg_7 (by decide +kernel) (List.mem_of_getElem? (i := 2) (by decide +kernel))
theorem qw_696 : Cond.instanceMethod yX12_weigh ∈ wsL_law := tseg_7 (by decide +kernel) (List.mem_of_getElem? (i := 3) (by decide +kernel))
theorem qw_697 : Cond.selects RX12 yX12_weigh yX12_weigh ∈ wsL_law := tseg_7 (by decide +kernel) (List.mem_of_getElem? (i := 4) (by decide +kernel))
theorem qw_698 : Cond.code yX12_weigh cX12_weigh 4 (some .int) ∈ wsL_law := tseg_7 (by decide +kernel) (List.mem_of_getElem? (i := 5) (by decide +kernel))
theorem qw_699 : Cond.methodLink RL 111 yX11_pay ∈ wsL_law := tseg_4 (by decide +kernel) (List.mem_of_getElem? (i := 43) (by decide +kernel))
theorem qw_700 : Cond.instanceMethod yX11_pay ∈ wsL_law := tseg_4 (by decide +kernel) (List.mem_of_getElem? (i := 44) (by decide +kernel))
theorem qw_701 : Cond.selects RX11 yX11_pay yX11_pay ∈ wsL_law := tseg_4 (by decide +kernel) (List.mem_of_getElem? (i := 45) (by decide +kernel))
theorem qw_702 : Cond.code yX11_pay cX11_pay 3 (some .int) ∈ wsL_law := tseg_4 (by decide +kernel) (List.mem_of_getElem? (i := 46) (by decide +kernel))
theorem qw_703 : Cond.methodLink RL 114 yX12_pay ∈ wsL_law := tseg_7 (by decide +kernel) (List.mem_of_getElem? (i := 6) (by decide +kernel))
theorem qw_704 : Cond.instanceMethod yX12_pay ∈ wsL_law := tseg_7 (by decide +kernel) (List.mem_of_getElem? (i := 7) (by decide +kernel))
theorem qw_705 : Cond.selects RX12 yX12_pay yX12_pay ∈ wsL_law := tseg_7 (by decide +kernel) (List.mem_of_getElem? (i := 8) (by decide +kernel))
theorem qw_706 : Cond.code yX12_pay cX12_pay 3 (some .int) ∈ wsL_law := tseg_7 (by decide +kernel) (List.mem_of_getElem? (i := 9) (by decide +kernel))
theorem qw_707 : Cond.methodLink RL 115 yL_stopped ∈ wsL_law := tseg_5 (by decide +kernel) (List.mem_of_getElem? (i := 85) (by decide +kernel))
theorem qw_708 : Cond.static yL_stopped ∈ wsL_law := tseg_5 (by decide +kernel) (List.mem_of_getElem? (i := 86) (by decide +kernel))
theorem qw_709 : Cond.codeWith yL_stopped cL_stopped 6 (some .int) [(0, 11, 14, 13)] ∈ wsL_law := tseg_5 (by decide +kernel) (List.mem_of_getElem? (i := 87) (by decide +kernel))
theorem qw_710 : Cond.methodLink RL 117 yX12_stopped ∈ wsL_law := tseg_7 (by decide +kernel) (List.mem_of_getElem? (i := 22) (by decide +kernel))
theorem qw_711 : Cond.instanceMethod yX12_stopped ∈ wsL_law := tseg_7 (by decide +kernel) (List.mem_of_getElem? (i := 23) (by decide +kernel))
theorem qw_712 : Cond.selects RX12 yX12_stopped yX12_stopped ∈ wsL_law := tseg_7 (by decide +kernel) (List.mem_of_getElem? (i := 24) (by decide +kernel))
theorem qw_713 : Cond.code yX12_stopped cX12_stopped 4 (some .long) ∈ wsL_law := tseg_7 (by decide +kernel) (List.mem_of_getElem? (i := 25) (by decide +kernel))
theorem qw_714 : Cond.methodLink RL 118 yL_within ∈ wsL_law := tseg_5 (by decide +kernel) (List.mem_of_getElem? (i := 93) (by decide +kernel))
theorem qw_715 : Cond.static yL_within ∈ wsL_law := tseg_5 (by decide +kernel) (List.mem_of_getElem? (i := 94) (by decide +kernel))
theorem qw_716 : Cond.codeWith yL_within cL_within 6 (some .int) [(0, 11, 14, 13)] ∈ wsL_law := tseg_5 (by decide +kernel) (List.mem_of_getElem? (i := 95) (by decide +kernel))
theorem qw_717 : Cond.methodLink RL 120 yX12_within ∈ wsL_law := tseg_7 (by decide +kernel) (List.mem_of_getElem? (i := 26) (by decide +kernel))
theorem qw_718 : Cond.instanceMethod yX12_within ∈ wsL_law := tseg_7 (by decide +kernel) (List.mem_of_getElem? (i := 27) (by decide +kernel))
theorem qw_719 : Cond.selects RX12 yX12_within yX12_within ∈ wsL_law := tseg_7 (by decide +kernel) (List.mem_of_getElem? (i := 28) (by decide +kernel))
theorem qw_720 : Cond.code yX12_within cX12_within 6 (some .long) ∈ wsL_law := tseg_7 (by decide +kernel) (List.mem_of_getElem? (i := 29) (by decide +kernel))
theorem qw_721 : Cond.methodLink RL 121 yX11_forced ∈ wsL_law := tseg_4 (by decide +kernel) (List.mem_of_getElem? (i := 47) (by decide +kernel))
theorem qw_722 : Cond.instanceMethod yX11_forced ∈ wsL_law := tseg_4 (by decide +kernel) (List.mem_of_getElem? (i := 48) (by decide +kernel))
theorem qw_723 : Cond.selects RX11 yX11_forced yX11_forced ∈ wsL_law := tseg_4 (by decide +kernel) (List.mem_of_getElem? (i := 49) (by decide +kernel))
theorem qw_724 : Cond.code yX11_forced cX11_forced 3 (some .int) ∈ wsL_law := tseg_4 (by decide +kernel) (List.mem_of_getElem? (i := 50) (by decide +kernel))
theorem qw_725 : Cond.methodLink RL 124 yX12_forced ∈ wsL_law := tseg_7 (by decide +kernel) (List.mem_of_getElem? (i := 42) (by decide +kernel))
theorem qw_726 : Cond.instanceMethod yX12_forced ∈ wsL_law := tseg_7 (by decide +kernel) (List.mem_of_getElem? (i := 43) (by decide +kernel))
theorem qw_727 : Cond.selects RX12 yX12_forced yX12_forced ∈ wsL_law := tseg_7 (by decide +kernel) (List.mem_of_getElem? (i := 44) (by decide +kernel))
theorem qw_728 : Cond.code yX12_forced cX12_forced 8 (some .int) ∈ wsL_law := tseg_7 (by decide +kernel) (List.mem_of_getElem? (i := 45) (by decide +kernel))
theorem qw_729 : Cond.methodLink RL 125 yX11_rings ∈ wsL_law := tseg_4 (by decide +kernel) (List.mem_of_getElem? (i := 56) (by decide +kernel))
theorem qw_730 : Cond.instanceMethod yX11_rings ∈ wsL_law := tseg_4 (by decide +kernel) (List.mem_of_getElem? (i := 57) (by decide +kernel))
theorem qw_731 : Cond.selects RX11 yX11_rings yX11_rings ∈ wsL_law := tseg_4 (by decide +kernel) (List.mem_of_getElem? (i := 58) (by decide +kernel))
theorem qw_732 : Cond.code yX11_rings cX11_rings 1 (some .int) ∈ wsL_law := tseg_4 (by decide +kernel) (List.mem_of_getElem? (i := 59) (by decide +kernel))
theorem qw_733 : Cond.methodLink RL 128 yX12_rings ∈ wsL_law := tseg_7 (by decide +kernel) (List.mem_of_getElem? (i := 70) (by decide +kernel))
theorem qw_734 : Cond.instanceMethod yX12_rings ∈ wsL_law := tseg_7 (by decide +kernel) (List.mem_of_getElem? (i := 71) (by decide +kernel))
theorem qw_735 : Cond.selects RX12 yX12_rings yX12_rings ∈ wsL_law := tseg_7 (by decide +kernel) (List.mem_of_getElem? (i := 72) (by decide +kernel))
theorem qw_736 : Cond.code yX12_rings cX12_rings 2 (some .int) ∈ wsL_law := tseg_7 (by decide +kernel) (List.mem_of_getElem? (i := 73) (by decide +kernel))
theorem qw_737 : Cond.methodLink RL 129 yX11_ring ∈ wsL_law := tseg_4 (by decide +kernel) (List.mem_of_getElem? (i := 60) (by decide +kernel))
theorem qw_738 : Cond.instanceMethod yX11_ring ∈ wsL_law := tseg_4 (by decide +kernel) (List.mem_of_getElem? (i := 61) (by decide +kernel))
theorem qw_739 : Cond.selects RX11 yX11_ring yX11_ring ∈ wsL_law := tseg_4 (by decide +kernel) (List.mem_of_getElem? (i := 62) (by decide +kernel))
theorem qw_740 : Cond.code yX11_ring cX11_ring 2 (some .int) ∈ wsL_law := tseg_4 (by decide +kernel) (List.mem_of_getElem? (i := 63) (by decide +kernel))
theorem qw_741 : Cond.methodLink RL 132 yX12_ring ∈ wsL_law := tseg_7 (by decide +kernel) (List.mem_of_getElem? (i := 54) (by decide +kernel))
theorem qw_742 : Cond.methodLink RL 133 yL_moves ∈ wsL_law := tseg_5 (by decide +kernel) (List.mem_of_getElem? (i := 112) (by decide +kernel))
theorem qw_743 : Cond.static yL_moves ∈ wsL_law := tseg_5 (by decide +kernel) (List.mem_of_getElem? (i := 113) (by decide +kernel))
theorem qw_744 : Cond.codeWith yL_moves cL_moves 5 (some .int) [(0, 9, 12, 13)] ∈ wsL_law := tseg_5 (by decide +kernel) (List.mem_of_getElem? (i := 114) (by decide +kernel))
theorem qw_745 : Cond.methodLink RL 135 yX12_moves ∈ wsL_law := tseg_7 (by decide +kernel) (List.mem_of_getElem? (i := 75) (by decide +kernel))
theorem qw_746 : Cond.instanceMethod yX12_moves ∈ wsL_law := tseg_7 (by decide +kernel) (List.mem_of_getElem? (i := 76) (by decide +kernel))
theorem qw_747 : Cond.selects RX12 yX12_moves yX12_moves ∈ wsL_law := tseg_7 (by decide +kernel) (List.mem_of_getElem? (i := 77) (by decide +kernel))
theorem qw_748 : Cond.code yX12_moves cX12_moves 7 (some .long) ∈ wsL_law := tseg_7 (by decide +kernel) (List.mem_of_getElem? (i := 78) (by decide +kernel))
theorem qw_749 : Cond.methodLink RL 136 yX11_sets ∈ wsL_law := tseg_4 (by decide +kernel) (List.mem_of_getElem? (i := 64) (by decide +kernel))
theorem qw_750 : Cond.instanceMethod yX11_sets ∈ wsL_law := tseg_4 (by decide +kernel) (List.mem_of_getElem? (i := 65) (by decide +kernel))
theorem qw_751 : Cond.selects RX11 yX11_sets yX11_sets ∈ wsL_law := tseg_4 (by decide +kernel) (List.mem_of_getElem? (i := 66) (by decide +kernel))
theorem qw_752 : Cond.code yX11_sets cX11_sets 3 (some .int) ∈ wsL_law := tseg_4 (by decide +kernel) (List.mem_of_getElem? (i := 67) (by decide +kernel))
theorem qw_753 : Cond.methodLink RL 139 yX12_sets ∈ wsL_law := tseg_7 (by decide +kernel) (List.mem_of_getElem? (i := 79) (by decide +kernel))
theorem qw_754 : Cond.instanceMethod yX12_sets ∈ wsL_law := tseg_7 (by decide +kernel) (List.mem_of_getElem? (i := 80) (by decide +kernel))
theorem qw_755 : Cond.selects RX12 yX12_sets yX12_sets ∈ wsL_law := tseg_7 (by decide +kernel) (List.mem_of_getElem? (i := 81) (by decide +kernel))
theorem qw_756 : Cond.code yX12_sets cX12_sets 3 (some .int) ∈ wsL_law := tseg_7 (by decide +kernel) (List.mem_of_getElem? (i := 82) (by decide +kernel))
theorem dL_law_690 : decode cL_law 690 = .ok (.aload_n 1, 1) := by decide +kernel
theorem dL_law_691 : decode cL_law 691 = .ok (.invokevirtual 95, 3) := by decide +kernel
theorem dL_law_694 : decode cL_law 694 = .ok (.aload_n 2, 1) := by decide +kernel
theorem dL_law_695 : decode cL_law 695 = .ok (.invokevirtual 98, 3) := by decide +kernel
theorem dL_law_698 : decode cL_law 698 = .ok (.if_icmp .eq 777, 3) := by decide +kernel
theorem dL_law_703 : decode cL_law 703 = .ok (.aload_n 1, 1) := by decide +kernel
theorem dL_law_704 : decode cL_law 704 = .ok (.aload_n 0, 1) := by decide +kernel
theorem dL_law_705 : decode cL_law 705 = .ok (.iload 4, 2) := by decide +kernel
theorem dL_law_707 : decode cL_law 707 = .ok (.iconst 1, 1) := by decide +kernel
theorem dL_law_708 : decode cL_law 708 = .ok (.iadd, 1) := by decide +kernel
theorem dL_law_709 : decode cL_law 709 = .ok (.iaload, 1) := by decide +kernel
theorem dL_law_710 : decode cL_law 710 = .ok (.aload_n 0, 1) := by decide +kernel
theorem dL_law_711 : decode cL_law 711 = .ok (.iload 4, 2) := by decide +kernel
theorem dL_law_713 : decode cL_law 713 = .ok (.iconst 2, 1) := by decide +kernel
theorem dL_law_714 : decode cL_law 714 = .ok (.iadd, 1) := by decide +kernel
theorem dL_law_715 : decode cL_law 715 = .ok (.iaload, 1) := by decide +kernel
theorem dL_law_716 : decode cL_law 716 = .ok (.invokevirtual 99, 3) := by decide +kernel
theorem dL_law_719 : decode cL_law 719 = .ok (.aload_n 2, 1) := by decide +kernel
theorem dL_law_720 : decode cL_law 720 = .ok (.aload_n 0, 1) := by decide +kernel
theorem dL_law_721 : decode cL_law 721 = .ok (.iload 4, 2) := by decide +kernel
theorem dL_law_723 : decode cL_law 723 = .ok (.iconst 1, 1) := by decide +kernel
theorem dL_law_724 : decode cL_law 724 = .ok (.iadd, 1) := by decide +kernel
theorem dL_law_725 : decode cL_law 725 = .ok (.iaload, 1) := by decide +kernel
theorem dL_law_726 : decode cL_law 726 = .ok (.aload_n 0, 1) := by decide +kernel
theorem dL_law_727 : decode cL_law 727 = .ok (.iload 4, 2) := by decide +kernel
theorem dL_law_729 : decode cL_law 729 = .ok (.iconst 2, 1) := by decide +kernel
theorem dL_law_730 : decode cL_law 730 = .ok (.iadd, 1) := by decide +kernel
theorem dL_law_731 : decode cL_law 731 = .ok (.iaload, 1) := by decide +kernel
theorem dL_law_732 : decode cL_law 732 = .ok (.invokevirtual 102, 3) := by decide +kernel
theorem dL_law_735 : decode cL_law 735 = .ok (.if_icmp .eq 740, 3) := by decide +kernel
theorem dL_law_740 : decode cL_law 740 = .ok (.aload_n 1, 1) := by decide +kernel
theorem dL_law_741 : decode cL_law 741 = .ok (.aload_n 0, 1) := by decide +kernel
theorem dL_law_742 : decode cL_law 742 = .ok (.iload 4, 2) := by decide +kernel
theorem dL_law_744 : decode cL_law 744 = .ok (.iconst 1, 1) := by decide +kernel
theorem dL_law_745 : decode cL_law 745 = .ok (.iadd, 1) := by decide +kernel
theorem dL_law_746 : decode cL_law 746 = .ok (.iaload, 1) := by decide +kernel
theorem dL_law_747 : decode cL_law 747 = .ok (.invokevirtual 103, 3) := by decide +kernel
theorem dL_law_750 : decode cL_law 750 = .ok (.aload_n 2, 1) := by decide +kernel
theorem dL_law_751 : decode cL_law 751 = .ok (.aload_n 0, 1) := by decide +kernel
theorem dL_law_752 : decode cL_law 752 = .ok (.iload 4, 2) := by decide +kernel
theorem dL_law_754 : decode cL_law 754 = .ok (.iconst 1, 1) := by decide +kernel
theorem dL_law_755 : decode cL_law 755 = .ok (.iadd, 1) := by decide +kernel
theorem dL_law_756 : decode cL_law 756 = .ok (.iaload, 1) := by decide +kernel
theorem dL_law_757 : decode cL_law 757 = .ok (.invokevirtual 106, 3) := by decide +kernel
theorem dL_law_760 : decode cL_law 760 = .ok (.if_icmp .eq 715, 3) := by decide +kernel
theorem dL_law_765 : decode cL_law 765 = .ok (.aload_n 1, 1) := by decide +kernel
theorem dL_law_766 : decode cL_law 766 = .ok (.aload_n 0, 1) := by decide +kernel
theorem dL_law_767 : decode cL_law 767 = .ok (.iload 4, 2) := by decide +kernel
theorem dL_law_769 : decode cL_law 769 = .ok (.iconst 1, 1) := by decide +kernel
theorem dL_law_770 : decode cL_law 770 = .ok (.iadd, 1) := by decide +kernel
theorem dL_law_771 : decode cL_law 771 = .ok (.iaload, 1) := by decide +kernel
theorem dL_law_772 : decode cL_law 772 = .ok (.aload_n 0, 1) := by decide +kernel
theorem dL_law_773 : decode cL_law 773 = .ok (.iload 4, 2) := by decide +kernel
theorem dL_law_775 : decode cL_law 775 = .ok (.iconst 2, 1) := by decide +kernel
theorem dL_law_776 : decode cL_law 776 = .ok (.iadd, 1) := by decide +kernel
theorem dL_law_777 : decode cL_law 777 = .ok (.iaload, 1) := by decide +kernel
theorem dL_law_778 : decode cL_law 778 = .ok (.aload_n 0, 1) := by decide +kernel
theorem dL_law_779 : decode cL_law 779 = .ok (.iload 4, 2) := by decide +kernel
theorem dL_law_781 : decode cL_law 781 = .ok (.iconst 3, 1) := by decide +kernel
theorem dL_law_782 : decode cL_law 782 = .ok (.iadd, 1) := by decide +kernel
theorem dL_law_783 : decode cL_law 783 = .ok (.iaload, 1) := by decide +kernel
theorem dL_law_784 : decode cL_law 784 = .ok (.invokevirtual 107, 3) := by decide +kernel
theorem dL_law_787 : decode cL_law 787 = .ok (.aload_n 2, 1) := by decide +kernel
theorem dL_law_788 : decode cL_law 788 = .ok (.aload_n 0, 1) := by decide +kernel
theorem dL_law_789 : decode cL_law 789 = .ok (.iload 4, 2) := by decide +kernel
theorem dL_law_791 : decode cL_law 791 = .ok (.iconst 1, 1) := by decide +kernel
theorem dL_law_792 : decode cL_law 792 = .ok (.iadd, 1) := by decide +kernel
theorem dL_law_793 : decode cL_law 793 = .ok (.iaload, 1) := by decide +kernel
theorem dL_law_794 : decode cL_law 794 = .ok (.aload_n 0, 1) := by decide +kernel
theorem dL_law_795 : decode cL_law 795 = .ok (.iload 4, 2) := by decide +kernel
theorem dL_law_797 : decode cL_law 797 = .ok (.iconst 2, 1) := by decide +kernel
theorem dL_law_798 : decode cL_law 798 = .ok (.iadd, 1) := by decide +kernel
theorem dL_law_799 : decode cL_law 799 = .ok (.iaload, 1) := by decide +kernel
theorem dL_law_800 : decode cL_law 800 = .ok (.aload_n 0, 1) := by decide +kernel
theorem dL_law_801 : decode cL_law 801 = .ok (.iload 4, 2) := by decide +kernel
theorem dL_law_803 : decode cL_law 803 = .ok (.iconst 3, 1) := by decide +kernel
theorem dL_law_804 : decode cL_law 804 = .ok (.iadd, 1) := by decide +kernel
theorem dL_law_805 : decode cL_law 805 = .ok (.iaload, 1) := by decide +kernel
theorem dL_law_806 : decode cL_law 806 = .ok (.invokevirtual 110, 3) := by decide +kernel
theorem dL_law_809 : decode cL_law 809 = .ok (.if_icmp .eq 666, 3) := by decide +kernel
theorem dL_law_814 : decode cL_law 814 = .ok (.aload_n 1, 1) := by decide +kernel
theorem dL_law_815 : decode cL_law 815 = .ok (.aload_n 0, 1) := by decide +kernel
theorem dL_law_816 : decode cL_law 816 = .ok (.iload 4, 2) := by decide +kernel
theorem dL_law_818 : decode cL_law 818 = .ok (.iconst 1, 1) := by decide +kernel
theorem dL_law_819 : decode cL_law 819 = .ok (.iadd, 1) := by decide +kernel
theorem dL_law_820 : decode cL_law 820 = .ok (.iaload, 1) := by decide +kernel
theorem dL_law_821 : decode cL_law 821 = .ok (.aload_n 0, 1) := by decide +kernel
theorem dL_law_822 : decode cL_law 822 = .ok (.iload 4, 2) := by decide +kernel
theorem dL_law_824 : decode cL_law 824 = .ok (.iconst 2, 1) := by decide +kernel
theorem dL_law_825 : decode cL_law 825 = .ok (.iadd, 1) := by decide +kernel
theorem dL_law_826 : decode cL_law 826 = .ok (.iaload, 1) := by decide +kernel
theorem dL_law_827 : decode cL_law 827 = .ok (.invokevirtual 111, 3) := by decide +kernel
theorem dL_law_830 : decode cL_law 830 = .ok (.aload_n 2, 1) := by decide +kernel
theorem dL_law_831 : decode cL_law 831 = .ok (.aload_n 0, 1) := by decide +kernel
theorem dL_law_832 : decode cL_law 832 = .ok (.iload 4, 2) := by decide +kernel
theorem dL_law_834 : decode cL_law 834 = .ok (.iconst 1, 1) := by decide +kernel
theorem dL_law_835 : decode cL_law 835 = .ok (.iadd, 1) := by decide +kernel
theorem dL_law_836 : decode cL_law 836 = .ok (.iaload, 1) := by decide +kernel
theorem dL_law_837 : decode cL_law 837 = .ok (.aload_n 0, 1) := by decide +kernel
theorem dL_law_838 : decode cL_law 838 = .ok (.iload 4, 2) := by decide +kernel
theorem dL_law_840 : decode cL_law 840 = .ok (.iconst 2, 1) := by decide +kernel
theorem dL_law_841 : decode cL_law 841 = .ok (.iadd, 1) := by decide +kernel
theorem dL_law_842 : decode cL_law 842 = .ok (.iaload, 1) := by decide +kernel
theorem dL_law_843 : decode cL_law 843 = .ok (.invokevirtual 114, 3) := by decide +kernel
theorem dL_law_846 : decode cL_law 846 = .ok (.if_icmp .eq 629, 3) := by decide +kernel
theorem dL_law_851 : decode cL_law 851 = .ok (.aload_n 1, 1) := by decide +kernel
theorem dL_law_852 : decode cL_law 852 = .ok (.aload_n 0, 1) := by decide +kernel
theorem dL_law_853 : decode cL_law 853 = .ok (.iload 4, 2) := by decide +kernel
theorem dL_law_855 : decode cL_law 855 = .ok (.iconst 1, 1) := by decide +kernel
theorem dL_law_856 : decode cL_law 856 = .ok (.iadd, 1) := by decide +kernel
theorem dL_law_857 : decode cL_law 857 = .ok (.iaload, 1) := by decide +kernel
theorem dL_law_858 : decode cL_law 858 = .ok (.aload_n 0, 1) := by decide +kernel
theorem dL_law_859 : decode cL_law 859 = .ok (.iload 4, 2) := by decide +kernel
theorem dL_law_861 : decode cL_law 861 = .ok (.iconst 2, 1) := by decide +kernel
theorem dL_law_862 : decode cL_law 862 = .ok (.iadd, 1) := by decide +kernel
theorem dL_law_863 : decode cL_law 863 = .ok (.iaload, 1) := by decide +kernel
theorem dL_law_864 : decode cL_law 864 = .ok (.aload_n 0, 1) := by decide +kernel
theorem dL_law_865 : decode cL_law 865 = .ok (.iload 4, 2) := by decide +kernel
theorem dL_law_867 : decode cL_law 867 = .ok (.iconst 3, 1) := by decide +kernel
theorem dL_law_868 : decode cL_law 868 = .ok (.iadd, 1) := by decide +kernel
theorem dL_law_869 : decode cL_law 869 = .ok (.iaload, 1) := by decide +kernel
theorem dL_law_870 : decode cL_law 870 = .ok (.aload_n 3, 1) := by decide +kernel
theorem dL_law_871 : decode cL_law 871 = .ok (.invokestatic 115, 3) := by decide +kernel
theorem dL_law_874 : decode cL_law 874 = .ok (.istore 5, 2) := by decide +kernel
theorem dL_law_876 : decode cL_law 876 = .ok (.aload_n 2, 1) := by decide +kernel
theorem dL_law_877 : decode cL_law 877 = .ok (.aload_n 0, 1) := by decide +kernel
theorem dL_law_878 : decode cL_law 878 = .ok (.iload 4, 2) := by decide +kernel
theorem dL_law_880 : decode cL_law 880 = .ok (.iconst 1, 1) := by decide +kernel
theorem dL_law_881 : decode cL_law 881 = .ok (.iadd, 1) := by decide +kernel
theorem dL_law_882 : decode cL_law 882 = .ok (.iaload, 1) := by decide +kernel
theorem dL_law_883 : decode cL_law 883 = .ok (.aload_n 0, 1) := by decide +kernel
theorem dL_law_884 : decode cL_law 884 = .ok (.iload 4, 2) := by decide +kernel
theorem dL_law_886 : decode cL_law 886 = .ok (.iconst 2, 1) := by decide +kernel
theorem dL_law_887 : decode cL_law 887 = .ok (.iadd, 1) := by decide +kernel
theorem dL_law_888 : decode cL_law 888 = .ok (.iaload, 1) := by decide +kernel
theorem dL_law_889 : decode cL_law 889 = .ok (.aload_n 0, 1) := by decide +kernel
theorem dL_law_890 : decode cL_law 890 = .ok (.iload 4, 2) := by decide +kernel
theorem dL_law_892 : decode cL_law 892 = .ok (.iconst 3, 1) := by decide +kernel
theorem dL_law_893 : decode cL_law 893 = .ok (.iadd, 1) := by decide +kernel
theorem dL_law_894 : decode cL_law 894 = .ok (.iaload, 1) := by decide +kernel
theorem dL_law_895 : decode cL_law 895 = .ok (.invokevirtual 117, 3) := by decide +kernel
theorem dL_law_898 : decode cL_law 898 = .ok (.lstore 6, 2) := by decide +kernel
theorem dL_law_900 : decode cL_law 900 = .ok (.aload_n 2, 1) := by decide +kernel
theorem dL_law_901 : decode cL_law 901 = .ok (.invokevirtual 65, 3) := by decide +kernel
theorem dL_law_904 : decode cL_law 904 = .ok (.iload 5, 2) := by decide +kernel
theorem dL_law_906 : decode cL_law 906 = .ok (.if_icmp .eq 5, 3) := by decide +kernel
theorem dL_law_911 : decode cL_law 911 = .ok (.iload 5, 2) := by decide +kernel
theorem dL_law_913 : decode cL_law 913 = .ok (.ifCond .ne 14, 3) := by decide +kernel
theorem dL_law_927 : decode cL_law 927 = .ok (.goto 548, 3) := by decide +kernel
theorem dL_law_930 : decode cL_law 930 = .ok (.aload_n 1, 1) := by decide +kernel
theorem dL_law_931 : decode cL_law 931 = .ok (.aload_n 0, 1) := by decide +kernel
theorem dL_law_932 : decode cL_law 932 = .ok (.iload 4, 2) := by decide +kernel
theorem dL_law_934 : decode cL_law 934 = .ok (.iconst 1, 1) := by decide +kernel
theorem dL_law_935 : decode cL_law 935 = .ok (.iadd, 1) := by decide +kernel
theorem dL_law_936 : decode cL_law 936 = .ok (.iaload, 1) := by decide +kernel
theorem dL_law_937 : decode cL_law 937 = .ok (.aload_n 0, 1) := by decide +kernel
theorem dL_law_938 : decode cL_law 938 = .ok (.iload 4, 2) := by decide +kernel
theorem dL_law_940 : decode cL_law 940 = .ok (.iconst 2, 1) := by decide +kernel
theorem dL_law_941 : decode cL_law 941 = .ok (.iadd, 1) := by decide +kernel
theorem dL_law_942 : decode cL_law 942 = .ok (.iaload, 1) := by decide +kernel
theorem dL_law_943 : decode cL_law 943 = .ok (.aload_n 0, 1) := by decide +kernel
theorem dL_law_944 : decode cL_law 944 = .ok (.iload 4, 2) := by decide +kernel
theorem dL_law_946 : decode cL_law 946 = .ok (.iconst 3, 1) := by decide +kernel
theorem dL_law_947 : decode cL_law 947 = .ok (.iadd, 1) := by decide +kernel
theorem dL_law_948 : decode cL_law 948 = .ok (.iaload, 1) := by decide +kernel
theorem dL_law_949 : decode cL_law 949 = .ok (.aload_n 3, 1) := by decide +kernel
theorem dL_law_950 : decode cL_law 950 = .ok (.invokestatic 118, 3) := by decide +kernel
theorem dL_law_953 : decode cL_law 953 = .ok (.istore 5, 2) := by decide +kernel
theorem dL_law_955 : decode cL_law 955 = .ok (.aload_n 2, 1) := by decide +kernel
theorem dL_law_956 : decode cL_law 956 = .ok (.aload_n 0, 1) := by decide +kernel
theorem dL_law_957 : decode cL_law 957 = .ok (.iload 4, 2) := by decide +kernel
theorem dL_law_959 : decode cL_law 959 = .ok (.iconst 1, 1) := by decide +kernel
theorem dL_law_960 : decode cL_law 960 = .ok (.iadd, 1) := by decide +kernel
theorem dL_law_961 : decode cL_law 961 = .ok (.iaload, 1) := by decide +kernel
theorem dL_law_962 : decode cL_law 962 = .ok (.aload_n 0, 1) := by decide +kernel
theorem dL_law_963 : decode cL_law 963 = .ok (.iload 4, 2) := by decide +kernel
theorem dL_law_965 : decode cL_law 965 = .ok (.iconst 2, 1) := by decide +kernel
theorem dL_law_966 : decode cL_law 966 = .ok (.iadd, 1) := by decide +kernel
theorem dL_law_967 : decode cL_law 967 = .ok (.iaload, 1) := by decide +kernel
theorem dL_law_968 : decode cL_law 968 = .ok (.aload_n 0, 1) := by decide +kernel
theorem dL_law_969 : decode cL_law 969 = .ok (.iload 4, 2) := by decide +kernel
theorem dL_law_971 : decode cL_law 971 = .ok (.iconst 3, 1) := by decide +kernel
theorem dL_law_972 : decode cL_law 972 = .ok (.iadd, 1) := by decide +kernel
theorem dL_law_973 : decode cL_law 973 = .ok (.iaload, 1) := by decide +kernel
theorem dL_law_974 : decode cL_law 974 = .ok (.invokevirtual 120, 3) := by decide +kernel
theorem dL_law_977 : decode cL_law 977 = .ok (.lstore 6, 2) := by decide +kernel
theorem dL_law_979 : decode cL_law 979 = .ok (.aload_n 2, 1) := by decide +kernel
theorem dL_law_980 : decode cL_law 980 = .ok (.invokevirtual 65, 3) := by decide +kernel
theorem dL_law_983 : decode cL_law 983 = .ok (.iload 5, 2) := by decide +kernel
theorem dL_law_985 : decode cL_law 985 = .ok (.if_icmp .eq 5, 3) := by decide +kernel
theorem dL_law_990 : decode cL_law 990 = .ok (.iload 5, 2) := by decide +kernel
theorem dL_law_992 : decode cL_law 992 = .ok (.ifCond .ne 14, 3) := by decide +kernel
theorem dL_law_1006 : decode cL_law 1006 = .ok (.goto 469, 3) := by decide +kernel
theorem dL_law_1009 : decode cL_law 1009 = .ok (.aload_n 1, 1) := by decide +kernel
theorem dL_law_1010 : decode cL_law 1010 = .ok (.aload_n 0, 1) := by decide +kernel
theorem dL_law_1011 : decode cL_law 1011 = .ok (.iload 4, 2) := by decide +kernel
theorem dL_law_1013 : decode cL_law 1013 = .ok (.iconst 1, 1) := by decide +kernel
theorem dL_law_1014 : decode cL_law 1014 = .ok (.iadd, 1) := by decide +kernel
theorem dL_law_1015 : decode cL_law 1015 = .ok (.iaload, 1) := by decide +kernel
theorem dL_law_1016 : decode cL_law 1016 = .ok (.aload_n 0, 1) := by decide +kernel
theorem dL_law_1017 : decode cL_law 1017 = .ok (.iload 4, 2) := by decide +kernel
theorem dL_law_1019 : decode cL_law 1019 = .ok (.iconst 2, 1) := by decide +kernel
theorem dL_law_1020 : decode cL_law 1020 = .ok (.iadd, 1) := by decide +kernel
theorem dL_law_1021 : decode cL_law 1021 = .ok (.iaload, 1) := by decide +kernel
theorem dL_law_1022 : decode cL_law 1022 = .ok (.invokevirtual 121, 3) := by decide +kernel
theorem dL_law_1025 : decode cL_law 1025 = .ok (.aload_n 2, 1) := by decide +kernel
theorem dL_law_1026 : decode cL_law 1026 = .ok (.aload_n 0, 1) := by decide +kernel
theorem dL_law_1027 : decode cL_law 1027 = .ok (.iload 4, 2) := by decide +kernel
theorem dL_law_1029 : decode cL_law 1029 = .ok (.iconst 1, 1) := by decide +kernel
theorem dL_law_1030 : decode cL_law 1030 = .ok (.iadd, 1) := by decide +kernel
theorem dL_law_1031 : decode cL_law 1031 = .ok (.iaload, 1) := by decide +kernel
theorem dL_law_1032 : decode cL_law 1032 = .ok (.aload_n 0, 1) := by decide +kernel
theorem dL_law_1033 : decode cL_law 1033 = .ok (.iload 4, 2) := by decide +kernel
theorem dL_law_1035 : decode cL_law 1035 = .ok (.iconst 2, 1) := by decide +kernel
theorem dL_law_1036 : decode cL_law 1036 = .ok (.iadd, 1) := by decide +kernel
theorem dL_law_1037 : decode cL_law 1037 = .ok (.iaload, 1) := by decide +kernel
theorem dL_law_1038 : decode cL_law 1038 = .ok (.invokevirtual 124, 3) := by decide +kernel
theorem dL_law_1041 : decode cL_law 1041 = .ok (.if_icmp .eq 434, 3) := by decide +kernel
theorem dL_law_1046 : decode cL_law 1046 = .ok (.aload_n 1, 1) := by decide +kernel
theorem dL_law_1047 : decode cL_law 1047 = .ok (.invokevirtual 125, 3) := by decide +kernel
theorem dL_law_1050 : decode cL_law 1050 = .ok (.aload_n 2, 1) := by decide +kernel
theorem dL_law_1051 : decode cL_law 1051 = .ok (.invokevirtual 128, 3) := by decide +kernel
theorem dL_law_1054 : decode cL_law 1054 = .ok (.if_icmp .eq 421, 3) := by decide +kernel
theorem dL_law_1059 : decode cL_law 1059 = .ok (.aload_n 1, 1) := by decide +kernel
theorem dL_law_1060 : decode cL_law 1060 = .ok (.aload_n 0, 1) := by decide +kernel
theorem dL_law_1061 : decode cL_law 1061 = .ok (.iload 4, 2) := by decide +kernel
theorem dL_law_1063 : decode cL_law 1063 = .ok (.iconst 1, 1) := by decide +kernel
theorem dL_law_1064 : decode cL_law 1064 = .ok (.iadd, 1) := by decide +kernel
theorem dL_law_1065 : decode cL_law 1065 = .ok (.iaload, 1) := by decide +kernel
theorem dL_law_1066 : decode cL_law 1066 = .ok (.invokevirtual 129, 3) := by decide +kernel
theorem dL_law_1069 : decode cL_law 1069 = .ok (.aload_n 2, 1) := by decide +kernel
theorem dL_law_1070 : decode cL_law 1070 = .ok (.aload_n 0, 1) := by decide +kernel
theorem dL_law_1071 : decode cL_law 1071 = .ok (.iload 4, 2) := by decide +kernel
theorem dL_law_1073 : decode cL_law 1073 = .ok (.iconst 1, 1) := by decide +kernel
theorem dL_law_1074 : decode cL_law 1074 = .ok (.iadd, 1) := by decide +kernel
theorem dL_law_1075 : decode cL_law 1075 = .ok (.iaload, 1) := by decide +kernel
theorem dL_law_1076 : decode cL_law 1076 = .ok (.invokevirtual 132, 3) := by decide +kernel
theorem dL_law_1079 : decode cL_law 1079 = .ok (.if_icmp .eq 396, 3) := by decide +kernel
theorem dL_law_1084 : decode cL_law 1084 = .ok (.aload_n 1, 1) := by decide +kernel
theorem dL_law_1085 : decode cL_law 1085 = .ok (.aload_n 0, 1) := by decide +kernel
theorem dL_law_1086 : decode cL_law 1086 = .ok (.iload 4, 2) := by decide +kernel
theorem dL_law_1088 : decode cL_law 1088 = .ok (.iconst 1, 1) := by decide +kernel
theorem dL_law_1089 : decode cL_law 1089 = .ok (.iadd, 1) := by decide +kernel
theorem dL_law_1090 : decode cL_law 1090 = .ok (.iaload, 1) := by decide +kernel
theorem dL_law_1091 : decode cL_law 1091 = .ok (.aload_n 0, 1) := by decide +kernel
theorem dL_law_1092 : decode cL_law 1092 = .ok (.iload 4, 2) := by decide +kernel
theorem dL_law_1094 : decode cL_law 1094 = .ok (.iconst 2, 1) := by decide +kernel
theorem dL_law_1095 : decode cL_law 1095 = .ok (.iadd, 1) := by decide +kernel
theorem dL_law_1096 : decode cL_law 1096 = .ok (.iaload, 1) := by decide +kernel
theorem dL_law_1097 : decode cL_law 1097 = .ok (.aload_n 3, 1) := by decide +kernel
theorem dL_law_1098 : decode cL_law 1098 = .ok (.invokestatic 133, 3) := by decide +kernel
theorem dL_law_1101 : decode cL_law 1101 = .ok (.istore 5, 2) := by decide +kernel
theorem dL_law_1103 : decode cL_law 1103 = .ok (.aload_n 2, 1) := by decide +kernel
theorem dL_law_1104 : decode cL_law 1104 = .ok (.aload_n 0, 1) := by decide +kernel
theorem dL_law_1105 : decode cL_law 1105 = .ok (.iload 4, 2) := by decide +kernel
theorem dL_law_1107 : decode cL_law 1107 = .ok (.iconst 1, 1) := by decide +kernel
theorem dL_law_1108 : decode cL_law 1108 = .ok (.iadd, 1) := by decide +kernel
theorem dL_law_1109 : decode cL_law 1109 = .ok (.iaload, 1) := by decide +kernel
theorem dL_law_1110 : decode cL_law 1110 = .ok (.aload_n 0, 1) := by decide +kernel
theorem dL_law_1111 : decode cL_law 1111 = .ok (.iload 4, 2) := by decide +kernel
theorem dL_law_1113 : decode cL_law 1113 = .ok (.iconst 2, 1) := by decide +kernel
theorem dL_law_1114 : decode cL_law 1114 = .ok (.iadd, 1) := by decide +kernel
theorem dL_law_1115 : decode cL_law 1115 = .ok (.iaload, 1) := by decide +kernel
theorem dL_law_1116 : decode cL_law 1116 = .ok (.invokevirtual 135, 3) := by decide +kernel
theorem dL_law_1119 : decode cL_law 1119 = .ok (.lstore 6, 2) := by decide +kernel
theorem dL_law_1121 : decode cL_law 1121 = .ok (.aload_n 2, 1) := by decide +kernel
theorem dL_law_1122 : decode cL_law 1122 = .ok (.invokevirtual 65, 3) := by decide +kernel
theorem dL_law_1125 : decode cL_law 1125 = .ok (.iload 5, 2) := by decide +kernel
theorem dL_law_1127 : decode cL_law 1127 = .ok (.if_icmp .eq 5, 3) := by decide +kernel
theorem dL_law_1132 : decode cL_law 1132 = .ok (.iload 5, 2) := by decide +kernel
theorem dL_law_1134 : decode cL_law 1134 = .ok (.ifCond .ne 14, 3) := by decide +kernel
theorem dL_law_1148 : decode cL_law 1148 = .ok (.goto 327, 3) := by decide +kernel
theorem dL_law_1151 : decode cL_law 1151 = .ok (.aload_n 1, 1) := by decide +kernel
theorem dL_law_1152 : decode cL_law 1152 = .ok (.aload_n 0, 1) := by decide +kernel
theorem dL_law_1153 : decode cL_law 1153 = .ok (.iload 4, 2) := by decide +kernel
theorem dL_law_1155 : decode cL_law 1155 = .ok (.iconst 1, 1) := by decide +kernel
theorem dL_law_1156 : decode cL_law 1156 = .ok (.iadd, 1) := by decide +kernel
theorem dL_law_1157 : decode cL_law 1157 = .ok (.iaload, 1) := by decide +kernel
theorem dL_law_1158 : decode cL_law 1158 = .ok (.aload_n 0, 1) := by decide +kernel
theorem dL_law_1159 : decode cL_law 1159 = .ok (.iload 4, 2) := by decide +kernel
theorem dL_law_1161 : decode cL_law 1161 = .ok (.iconst 2, 1) := by decide +kernel
theorem dL_law_1162 : decode cL_law 1162 = .ok (.iadd, 1) := by decide +kernel
theorem dL_law_1163 : decode cL_law 1163 = .ok (.iaload, 1) := by decide +kernel
theorem dL_law_1164 : decode cL_law 1164 = .ok (.invokevirtual 136, 3) := by decide +kernel
theorem dL_law_1167 : decode cL_law 1167 = .ok (.aload_n 2, 1) := by decide +kernel
theorem dL_law_1168 : decode cL_law 1168 = .ok (.aload_n 0, 1) := by decide +kernel
theorem dL_law_1169 : decode cL_law 1169 = .ok (.iload 4, 2) := by decide +kernel
theorem dL_law_1171 : decode cL_law 1171 = .ok (.iconst 1, 1) := by decide +kernel
theorem dL_law_1172 : decode cL_law 1172 = .ok (.iadd, 1) := by decide +kernel
theorem dL_law_1173 : decode cL_law 1173 = .ok (.iaload, 1) := by decide +kernel
theorem dL_law_1174 : decode cL_law 1174 = .ok (.aload_n 0, 1) := by decide +kernel
theorem dL_law_1175 : decode cL_law 1175 = .ok (.iload 4, 2) := by decide +kernel
theorem dL_law_1177 : decode cL_law 1177 = .ok (.iconst 2, 1) := by decide +kernel
theorem dL_law_1178 : decode cL_law 1178 = .ok (.iadd, 1) := by decide +kernel
theorem dL_law_1179 : decode cL_law 1179 = .ok (.iaload, 1) := by decide +kernel
theorem dL_law_1180 : decode cL_law 1180 = .ok (.invokevirtual 139, 3) := by decide +kernel
theorem dL_law_1183 : decode cL_law 1183 = .ok (.if_icmp .eq 292, 3) := by decide +kernel
set_option maxHeartbeats 4000000 in
set_option maxRecDepth 100000 in
theorem law_case_12 {p : Program} {l : Launch} {e : Env} {s : State} {m : MethodId} {below : List Frame} {meth : Method} {c : Code} {b : Nat} {xs : Nat → Int32} {A : Nat → Prop} {D : va_G} {g : Nat → ClassId} (x : Nat) (mm : Nat) (oa : Nat) (tp : Nat) (n : Nat) (dr : Nat) (x_images : Nat) (x_kept : Nat) (rd : Nat) (st : Nat) (tl : Nat) (rg : Nat) (sv : Nat) (oc : Nat) (x_tried : Nat) (lf : Nat) (x_stoppedWays : Nat) (x_stoppedWorth : Nat) (x_withinWorth : Nat) (n_kind : Nat) (n_pay : Nat) (n_name : Nat) (n_ways : Nat) (n_held : Nat) (n_targets : Nat) (n_weights : Nat) (co : Nat) (sv_keep : Nat) (sv_scaled : Nat) (eq : Nat) (co_place : Nat) (eq_rows : Nat) (eq_right : Nat) (rr : Nat → Nat) (lf_part : Nat) (m_s : Nat) (m_spare : Nat) (m_kept : Nat) (m_undone : Nat) (m_triedWay : Nat) (m_isKept : Nat) (m_tape : Nat) (m_letters : Nat) (m_choice : Nat) (m_row : Nat) (m_up : Nat) (m_low : Nat) (m_m : Nat) (m_bestUp : Nat) (m_bestLow : Nat) (m_replyUp : Nat) (m_replyLow : Nat) (m_worthUp : Nat) (m_worthLow : Nat) (m_bestWay : Nat) (m_told : Nat) (hst : l.stackTraces = false) (C0 : lw_At p s m meth c b 6 xs) (hA : ∀ q : Nat, s.heap.size ≤ q → A q) (hAl : ∀ q : Nat, A q → s.heap.size ≤ q) (hbA : ¬ A b) (hK : va_K D vwCl (TY g) s) (hZ : ZT A s s.heap) : ∀ (H : Heap) (locs : List Loc) (ls : Array Slot), va_P D vwCl [(x, .inr (11, [.ref tp, .ref n, .ref dr, .ref x_images, .ref x_kept, .ref rd, .ref st, .ref tl, .ref rg, .ref sv, .ref oc, .ref x_tried, .ref lf, .int 0, .ref x_stoppedWays, .ref x_stoppedWorth, .int 0, .ref x_withinWorth])), (n, .inr (2, [.int 0, .ref n_kind, .ref n_pay, .ref n_name, .ref n_ways, .ref n_held, .ref n_targets, .ref n_weights])), (sv, .inr (6, [.ref n, .ref co, .ref sv_keep, .ref sv_scaled])), (co, .inr (0, [.ref n, .ref eq, .ref co_place])), (eq, .inr (1, [.ref eq_rows, .ref eq_right, .long 0])), (eq_right, .inl (g 1, 8, .inr (.inl (fun _ => 0)))), (eq_rows, .inl (g 5, 8, .inr (.inr (.inr (.inr (fun i => if i < 8 then some (rr i) else none)))))), ((rr 0), .inl (g 1, 8, .inr (.inl (fun _ => 0)))), ((rr 1), .inl (g 1, 8, .inr (.inl (fun _ => 0)))), ((rr 2), .inl (g 1, 8, .inr (.inl (fun _ => 0)))), ((rr 3), .inl (g 1, 8, .inr (.inl (fun _ => 0)))), ((rr 4), .inl (g 1, 8, .inr (.inl (fun _ => 0)))), ((rr 5), .inl (g 1, 8, .inr (.inl (fun _ => 0)))), ((rr 6), .inl (g 1, 8, .inr (.inl (fun _ => 0)))), ((rr 7), .inl (g 1, 8, .inr (.inl (fun _ => 0)))), (lf, .inr (10, [.ref lf_part, .long 1])), (mm, .inr (12, (.int 0 :: .ref m_s :: .ref m_spare :: .ref m_kept :: .ref m_undone :: .ref m_triedWay :: .ref m_isKept :: .int 0 :: .ref m_tape :: .int 0 :: .int 0 :: .int 0 :: .int 0 :: .int 0 :: .int 0 :: .int 0 :: .int 0 :: .int 0 :: .ref m_letters :: .int 0 :: .ref m_choice :: .ref m_row :: .ref m_up :: .ref m_low :: .ref m_m :: .ref m_bestUp :: .ref m_bestLow :: .ref m_replyUp :: .ref m_replyLow :: .ref m_worthUp :: .ref m_worthLow :: .ref m_bestWay :: .int 0 :: .ref m_told :: .int 0 :: []))), (m_s, .inl (g 0, 193, .inl (fun _ => 0)))] H → va_D A [(x, .inr (11, [.ref tp, .ref n, .ref dr, .ref x_images, .ref x_kept, .ref rd, .ref st, .ref tl, .ref rg, .ref sv, .ref oc, .ref x_tried, .ref lf, .int 0, .ref x_stoppedWays, .ref x_stoppedWorth, .int 0, .ref x_withinWorth])), (n, .inr (2, [.int 0, .ref n_kind, .ref n_pay, .ref n_name, .ref n_ways, .ref n_held, .ref n_targets, .ref n_weights])), (sv, .inr (6, [.ref n, .ref co, .ref sv_keep, .ref sv_scaled])), (co, .inr (0, [.ref n, .ref eq, .ref co_place])), (eq, .inr (1, [.ref eq_rows, .ref eq_right, .long 0])), (eq_right, .inl (g 1, 8, .inr (.inl (fun _ => 0)))), (eq_rows, .inl (g 5, 8, .inr (.inr (.inr (.inr (fun i => if i < 8 then some (rr i) else none)))))), ((rr 0), .inl (g 1, 8, .inr (.inl (fun _ => 0)))), ((rr 1), .inl (g 1, 8, .inr (.inl (fun _ => 0)))), ((rr 2), .inl (g 1, 8, .inr (.inl (fun _ => 0)))), ((rr 3), .inl (g 1, 8, .inr (.inl (fun _ => 0)))), ((rr 4), .inl (g 1, 8, .inr (.inl (fun _ => 0)))), ((rr 5), .inl (g 1, 8, .inr (.inl (fun _ => 0)))), ((rr 6), .inl (g 1, 8, .inr (.inl (fun _ => 0)))), ((rr 7), .inl (g 1, 8, .inr (.inl (fun _ => 0)))), (lf, .inr (10, [.ref lf_part, .long 1])), (mm, .inr (12, (.int 0 :: .ref m_s :: .ref m_spare :: .ref m_kept :: .ref m_undone :: .ref m_triedWay :: .ref m_isKept :: .int 0 :: .ref m_tape :: .int 0 :: .int 0 :: .int 0 :: .int 0 :: .int 0 :: .int 0 :: .int 0 :: .int 0 :: .int 0 :: .ref m_letters :: .int 0 :: .ref m_choice :: .ref m_row :: .ref m_up :: .ref m_low :: .ref m_m :: .ref m_bestUp :: .ref m_bestLow :: .ref m_replyUp :: .ref m_replyLow :: .ref m_worthUp :: .ref m_worthLow :: .ref m_bestWay :: .int 0 :: .ref m_told :: .int 0 :: []))), (m_s, .inl (g 0, 193, .inl (fun _ => 0)))] → va_S A s.heap H locs → lv_has ls 8 [(4, .int 0), (3, .ref oa), (2, .ref mm), (1, .ref x), (0, .ref b)] → W p l e room_1 s m #[Value.ref b] below meth c H locs 114 6056 (lw_Z below #[Value.ref b] s) (F0 m 690 ls []) := by
  obtain ⟨hx, hb, hr, hml, hown, hts0, hX, hbl, hlocks, hgv⟩ := id C0
  have hts : ∀ w ∈ wsL_law, w.before _ s = true := fun w h => hts0 w (wsL_law_in w h)
  intro H locs ls hP hD hS hl
  refine lv_aload_n hx hb dL_law_690 rfl (lv_at hl 3 rfl) ?_
  have hPc := hP.sub (ws' := [(x, .inr (11, [.ref tp, .ref n, .ref dr, .ref x_images, .ref x_kept, .ref rd, .ref st, .ref tl, .ref rg, .ref sv, .ref oc, .ref x_tried, .ref lf, .int 0, .ref x_stoppedWays, .ref x_stoppedWorth, .int 0, .ref x_withinWorth])), (sv, .inr (6, [.ref n, .ref co, .ref sv_keep, .ref sv_scaled])), (co, .inr (0, [.ref n, .ref eq, .ref co_place])), (n, .inr (2, [.int 0, .ref n_kind, .ref n_pay, .ref n_name, .ref n_ways, .ref n_held, .ref n_targets, .ref n_weights])), (lf, .inr (10, [.ref lf_part, .long 1])), (eq, .inr (1, [.ref eq_rows, .ref eq_right, .long 0])), (eq_right, .inl (g 1, 8, .inr (.inl (fun _ => 0)))), (eq_rows, .inl (g 5, 8, .inr (.inr (.inr (.inr (fun i => if i < 8 then some (rr i) else none)))))), ((rr 0), .inl (g 1, 8, .inr (.inl (fun _ => 0)))), ((rr 1), .inl (g 1, 8, .inr (.inl (fun _ => 0)))), ((rr 2), .inl (g 1, 8, .inr (.inl (fun _ => 0)))), ((rr 3), .inl (g 1, 8, .inr (.inl (fun _ => 0)))), ((rr 4), .inl (g 1, 8, .inr (.inl (fun _ => 0)))), ((rr 5), .inl (g 1, 8, .inr (.inl (fun _ => 0)))), ((rr 6), .inl (g 1, 8, .inr (.inl (fun _ => 0)))), ((rr 7), .inl (g 1, 8, .inr (.inl (fun _ => 0))))]) [0, 2, 3, 1, 15, 4, 5, 6, 7, 8, 9, 10, 11, 12, 13, 14] rfl
  have hDc := hD.sub (ws' := [(x, .inr (11, [.ref tp, .ref n, .ref dr, .ref x_images, .ref x_kept, .ref rd, .ref st, .ref tl, .ref rg, .ref sv, .ref oc, .ref x_tried, .ref lf, .int 0, .ref x_stoppedWays, .ref x_stoppedWorth, .int 0, .ref x_withinWorth])), (sv, .inr (6, [.ref n, .ref co, .ref sv_keep, .ref sv_scaled])), (co, .inr (0, [.ref n, .ref eq, .ref co_place])), (n, .inr (2, [.int 0, .ref n_kind, .ref n_pay, .ref n_name, .ref n_ways, .ref n_held, .ref n_targets, .ref n_weights])), (lf, .inr (10, [.ref lf_part, .long 1])), (eq, .inr (1, [.ref eq_rows, .ref eq_right, .long 0])), (eq_right, .inl (g 1, 8, .inr (.inl (fun _ => 0)))), (eq_rows, .inl (g 5, 8, .inr (.inr (.inr (.inr (fun i => if i < 8 then some (rr i) else none)))))), ((rr 0), .inl (g 1, 8, .inr (.inl (fun _ => 0)))), ((rr 1), .inl (g 1, 8, .inr (.inl (fun _ => 0)))), ((rr 2), .inl (g 1, 8, .inr (.inl (fun _ => 0)))), ((rr 3), .inl (g 1, 8, .inr (.inl (fun _ => 0)))), ((rr 4), .inl (g 1, 8, .inr (.inl (fun _ => 0)))), ((rr 5), .inl (g 1, 8, .inr (.inl (fun _ => 0)))), ((rr 6), .inl (g 1, 8, .inr (.inl (fun _ => 0)))), ((rr 7), .inl (g 1, 8, .inr (.inl (fun _ => 0))))]) [0, 2, 3, 1, 15, 4, 5, 6, 7, 8, 9, 10, 11, 12, 13, 14] (by decide) rfl
  have hFc := va_free (wc := [(x, .inr (11, [.ref tp, .ref n, .ref dr, .ref x_images, .ref x_kept, .ref rd, .ref st, .ref tl, .ref rg, .ref sv, .ref oc, .ref x_tried, .ref lf, .int 0, .ref x_stoppedWays, .ref x_stoppedWorth, .int 0, .ref x_withinWorth])), (sv, .inr (6, [.ref n, .ref co, .ref sv_keep, .ref sv_scaled])), (co, .inr (0, [.ref n, .ref eq, .ref co_place])), (n, .inr (2, [.int 0, .ref n_kind, .ref n_pay, .ref n_name, .ref n_ways, .ref n_held, .ref n_targets, .ref n_weights])), (lf, .inr (10, [.ref lf_part, .long 1])), (eq, .inr (1, [.ref eq_rows, .ref eq_right, .long 0])), (eq_right, .inl (g 1, 8, .inr (.inl (fun _ => 0)))), (eq_rows, .inl (g 5, 8, .inr (.inr (.inr (.inr (fun i => if i < 8 then some (rr i) else none)))))), ((rr 0), .inl (g 1, 8, .inr (.inl (fun _ => 0)))), ((rr 1), .inl (g 1, 8, .inr (.inl (fun _ => 0)))), ((rr 2), .inl (g 1, 8, .inr (.inl (fun _ => 0)))), ((rr 3), .inl (g 1, 8, .inr (.inl (fun _ => 0)))), ((rr 4), .inl (g 1, 8, .inr (.inl (fun _ => 0)))), ((rr 5), .inl (g 1, 8, .inr (.inl (fun _ => 0)))), ((rr 6), .inl (g 1, 8, .inr (.inl (fun _ => 0)))), ((rr 7), .inl (g 1, 8, .inr (.inl (fun _ => 0))))]) hD hS hA [0, 2, 3, 1, 15, 4, 5, 6, 7, 8, 9, 10, 11, 12, 13, 14] rfl
  refine va_calli (va_runV (As := []) (rest := []) ⟨hx, hb, hml, hown, hts⟩ (c_X11_improveAll l D g H.size x tp n dr x_images x_kept rd st tl rg sv oc x_tried lf x_stoppedWays x_stoppedWorth x_withinWorth co sv_keep sv_scaled eq co_place n_kind n_pay n_name n_ways n_held n_targets n_weights lf_part 1 eq_rows eq_right 0 (fun _ => 0) rr (fun _ => 0) (fun _ => 0) (fun _ => 0) (fun _ => 0) (fun _ => 0) (fun _ => 0) (fun _ => 0) (fun _ => 0)) (cwV 0 hts (tz_gV qw_667 qw_668 qw_669 qw_165 qw_670) rfl rfl rfl (by decide +kernel) ⟨Nat.le_of_ble_eq_true rfl, Nat.le_of_ble_eq_true rfl⟩) ⟨tz_blQ, va_recv hK hPc (ci := 11) (q0 := 0) rfl rfl, tz_preQ hPc hK hDc⟩ rfl rfl hl.1 rfl (lv_room (Nat.le_of_ble_eq_true rfl)) dL_law_691 ⟨Nat.le_of_ble_eq_true rfl, Nat.le_of_ble_eq_true rfl⟩) hS (fun q _ h => hFc q h) hFc (fun r_679 u t H1 locs ht hvm hw hB hz1 hk1 hS => ?_)
  obtain ⟨hP, hD⟩ := va_join (wr := [(mm, .inr (12, (.int 0 :: .ref m_s :: .ref m_spare :: .ref m_kept :: .ref m_undone :: .ref m_triedWay :: .ref m_isKept :: .int 0 :: .ref m_tape :: .int 0 :: .int 0 :: .int 0 :: .int 0 :: .int 0 :: .int 0 :: .int 0 :: .int 0 :: .int 0 :: .ref m_letters :: .int 0 :: .ref m_choice :: .ref m_row :: .ref m_up :: .ref m_low :: .ref m_m :: .ref m_bestUp :: .ref m_bestLow :: .ref m_replyUp :: .ref m_replyLow :: .ref m_worthUp :: .ref m_worthLow :: .ref m_bestWay :: .int 0 :: .ref m_told :: .int 0 :: []))), (m_s, .inl (g 0, 193, .inl (fun _ => 0)))]) (w1 := []) hP hD [0, 2, 3, 1, 15, 4, 5, 6, 7, 8, 9, 10, 11, 12, 13, 14] [16, 17] rfl rfl (by decide) (by decide) hk1 hFc tz_nilP tz_nilD
  generalize H1 = H at hP hS ⊢
  have hP : va_P D vwCl [(mm, .inr (12, (.int 0 :: .ref m_s :: .ref m_spare :: .ref m_kept :: .ref m_undone :: .ref m_triedWay :: .ref m_isKept :: .int 0 :: .ref m_tape :: .int 0 :: .int 0 :: .int 0 :: .int 0 :: .int 0 :: .int 0 :: .int 0 :: .int 0 :: .int 0 :: .ref m_letters :: .int 0 :: .ref m_choice :: .ref m_row :: .ref m_up :: .ref m_low :: .ref m_m :: .ref m_bestUp :: .ref m_bestLow :: .ref m_replyUp :: .ref m_replyLow :: .ref m_worthUp :: .ref m_worthLow :: .ref m_bestWay :: .int 0 :: .ref m_told :: .int 0 :: []))), (m_s, .inl (g 0, 193, .inl (fun _ => 0)))] H := hP
  have hD : va_D A [(mm, .inr (12, (.int 0 :: .ref m_s :: .ref m_spare :: .ref m_kept :: .ref m_undone :: .ref m_triedWay :: .ref m_isKept :: .int 0 :: .ref m_tape :: .int 0 :: .int 0 :: .int 0 :: .int 0 :: .int 0 :: .int 0 :: .int 0 :: .int 0 :: .int 0 :: .ref m_letters :: .int 0 :: .ref m_choice :: .ref m_row :: .ref m_up :: .ref m_low :: .ref m_m :: .ref m_bestUp :: .ref m_bestLow :: .ref m_replyUp :: .ref m_replyLow :: .ref m_worthUp :: .ref m_worthLow :: .ref m_bestWay :: .int 0 :: .ref m_told :: .int 0 :: []))), (m_s, .inl (g 0, 193, .inl (fun _ => 0)))] := hD
  subst hw
  refine lv_aload_n hx hb dL_law_694 rfl (lv_at hl 2 rfl) ?_
  have hPc := hP.sub (ws' := [(mm, .inr (12, (.int 0 :: .ref m_s :: .ref m_spare :: .ref m_kept :: .ref m_undone :: .ref m_triedWay :: .ref m_isKept :: .int 0 :: .ref m_tape :: .int 0 :: .int 0 :: .int 0 :: .int 0 :: .int 0 :: .int 0 :: .int 0 :: .int 0 :: .int 0 :: .ref m_letters :: .int 0 :: .ref m_choice :: .ref m_row :: .ref m_up :: .ref m_low :: .ref m_m :: .ref m_bestUp :: .ref m_bestLow :: .ref m_replyUp :: .ref m_replyLow :: .ref m_worthUp :: .ref m_worthLow :: .ref m_bestWay :: .int 0 :: .ref m_told :: .int 0 :: []))), (m_s, .inl (g 0, 193, .inl (fun _ => 0)))]) [0, 1] rfl
  have hDc := hD.sub (ws' := [(mm, .inr (12, (.int 0 :: .ref m_s :: .ref m_spare :: .ref m_kept :: .ref m_undone :: .ref m_triedWay :: .ref m_isKept :: .int 0 :: .ref m_tape :: .int 0 :: .int 0 :: .int 0 :: .int 0 :: .int 0 :: .int 0 :: .int 0 :: .int 0 :: .int 0 :: .ref m_letters :: .int 0 :: .ref m_choice :: .ref m_row :: .ref m_up :: .ref m_low :: .ref m_m :: .ref m_bestUp :: .ref m_bestLow :: .ref m_replyUp :: .ref m_replyLow :: .ref m_worthUp :: .ref m_worthLow :: .ref m_bestWay :: .int 0 :: .ref m_told :: .int 0 :: []))), (m_s, .inl (g 0, 193, .inl (fun _ => 0)))]) [0, 1] (by decide) rfl
  have hFc := va_free (wc := [(mm, .inr (12, (.int 0 :: .ref m_s :: .ref m_spare :: .ref m_kept :: .ref m_undone :: .ref m_triedWay :: .ref m_isKept :: .int 0 :: .ref m_tape :: .int 0 :: .int 0 :: .int 0 :: .int 0 :: .int 0 :: .int 0 :: .int 0 :: .int 0 :: .int 0 :: .ref m_letters :: .int 0 :: .ref m_choice :: .ref m_row :: .ref m_up :: .ref m_low :: .ref m_m :: .ref m_bestUp :: .ref m_bestLow :: .ref m_replyUp :: .ref m_replyLow :: .ref m_worthUp :: .ref m_worthLow :: .ref m_bestWay :: .int 0 :: .ref m_told :: .int 0 :: []))), (m_s, .inl (g 0, 193, .inl (fun _ => 0)))]) hD hS hA [0, 1] rfl
  refine va_calli (va_runV (As := []) (rest := [.int 0]) ⟨hx, hb, hml, hown, hts⟩ (c_X12_improveAll l D g H.size mm 0 m_s m_spare m_kept m_undone m_triedWay m_isKept 0 m_tape 0 0 0 0 0 0 0 0 0 m_letters m_choice m_row m_up m_low m_m m_bestUp m_bestLow m_replyUp m_replyLow m_worthUp m_worthLow m_bestWay 0 m_told 0) (cwV 0 hts (tz_gV qw_671 qw_672 qw_673 qw_253 qw_674) rfl rfl rfl (by decide +kernel) ⟨Nat.le_of_ble_eq_true rfl, Nat.le_of_ble_eq_true rfl⟩) ⟨tz_blQ, va_recv hK hPc (ci := 12) (q0 := 0) rfl rfl, tz_preQ hPc hK hDc⟩ rfl rfl hl.1 rfl (lv_room (Nat.le_of_ble_eq_true rfl)) dL_law_695 ⟨Nat.le_of_ble_eq_true rfl, Nat.le_of_ble_eq_true rfl⟩) hS (fun q _ h => hFc q h) hFc (fun r_680 u t H1 locs ht hvm hw hB hz1 hk1 hS => ?_)
  obtain ⟨hP, hD⟩ := va_join (wr := []) (w1 := []) hP hD [0, 1] [] rfl rfl (by decide) (by decide) hk1 hFc tz_nilP tz_nilD
  generalize H1 = H at hP hS ⊢
  have hP : va_P D vwCl [] H := hP
  have hD : va_D A [] := hD
  subst hw
  refine lv_icmp_eq (tgt := 1475) hx hb dL_law_698 (by decide) (fun _ => ?_) (fun h9 => (h9 (by decide)).elim)
  exact law_end C0 hAl hbA H locs ls _ _ (by decide) (by decide) hS (lv_sub hl [0, 4] rfl)
set_option maxHeartbeats 4000000 in
set_option maxRecDepth 100000 in
theorem law_case_13 {p : Program} {l : Launch} {e : Env} {s : State} {m : MethodId} {below : List Frame} {meth : Method} {c : Code} {b : Nat} {xs : Nat → Int32} {A : Nat → Prop} {D : va_G} {g : Nat → ClassId} (x : Nat) (mm : Nat) (oa : Nat) (tp : Nat) (n : Nat) (dr : Nat) (x_images : Nat) (x_kept : Nat) (rd : Nat) (st : Nat) (tl : Nat) (rg : Nat) (sv : Nat) (oc : Nat) (x_tried : Nat) (lf : Nat) (x_stoppedWays : Nat) (x_stoppedWorth : Nat) (x_withinWorth : Nat) (n_kind : Nat) (n_pay : Nat) (n_name : Nat) (n_ways : Nat) (n_held : Nat) (n_targets : Nat) (n_weights : Nat) (m_s : Nat) (m_spare : Nat) (m_kept : Nat) (m_undone : Nat) (m_triedWay : Nat) (m_isKept : Nat) (m_tape : Nat) (m_letters : Nat) (m_choice : Nat) (m_row : Nat) (m_up : Nat) (m_low : Nat) (m_m : Nat) (m_bestUp : Nat) (m_bestLow : Nat) (m_replyUp : Nat) (m_replyLow : Nat) (m_worthUp : Nat) (m_worthLow : Nat) (m_bestWay : Nat) (m_told : Nat) (hst : l.stackTraces = false) (C0 : lw_At p s m meth c b 6 xs) (hA : ∀ q : Nat, s.heap.size ≤ q → A q) (hAl : ∀ q : Nat, A q → s.heap.size ≤ q) (hbA : ¬ A b) (hK : va_K D vwCl (TY g) s) (hZ : ZT A s s.heap) : ∀ (H : Heap) (locs : List Loc) (ls : Array Slot), va_P D vwCl [(x, .inr (11, [.ref tp, .ref n, .ref dr, .ref x_images, .ref x_kept, .ref rd, .ref st, .ref tl, .ref rg, .ref sv, .ref oc, .ref x_tried, .ref lf, .int 0, .ref x_stoppedWays, .ref x_stoppedWorth, .int 0, .ref x_withinWorth])), (n, .inr (2, [.int 0, .ref n_kind, .ref n_pay, .ref n_name, .ref n_ways, .ref n_held, .ref n_targets, .ref n_weights])), (mm, .inr (12, (.int 0 :: .ref m_s :: .ref m_spare :: .ref m_kept :: .ref m_undone :: .ref m_triedWay :: .ref m_isKept :: .int 0 :: .ref m_tape :: .int 0 :: .int 0 :: .int 0 :: .int 0 :: .int 0 :: .int 0 :: .int 0 :: .int 0 :: .int 0 :: .ref m_letters :: .int 0 :: .ref m_choice :: .ref m_row :: .ref m_up :: .ref m_low :: .ref m_m :: .ref m_bestUp :: .ref m_bestLow :: .ref m_replyUp :: .ref m_replyLow :: .ref m_worthUp :: .ref m_worthLow :: .ref m_bestWay :: .int 0 :: .ref m_told :: .int 0 :: []))), (m_s, .inl (g 0, 193, .inl (fun _ => 0)))] H → va_D A [(x, .inr (11, [.ref tp, .ref n, .ref dr, .ref x_images, .ref x_kept, .ref rd, .ref st, .ref tl, .ref rg, .ref sv, .ref oc, .ref x_tried, .ref lf, .int 0, .ref x_stoppedWays, .ref x_stoppedWorth, .int 0, .ref x_withinWorth])), (n, .inr (2, [.int 0, .ref n_kind, .ref n_pay, .ref n_name, .ref n_ways, .ref n_held, .ref n_targets, .ref n_weights])), (mm, .inr (12, (.int 0 :: .ref m_s :: .ref m_spare :: .ref m_kept :: .ref m_undone :: .ref m_triedWay :: .ref m_isKept :: .int 0 :: .ref m_tape :: .int 0 :: .int 0 :: .int 0 :: .int 0 :: .int 0 :: .int 0 :: .int 0 :: .int 0 :: .int 0 :: .ref m_letters :: .int 0 :: .ref m_choice :: .ref m_row :: .ref m_up :: .ref m_low :: .ref m_m :: .ref m_bestUp :: .ref m_bestLow :: .ref m_replyUp :: .ref m_replyLow :: .ref m_worthUp :: .ref m_worthLow :: .ref m_bestWay :: .int 0 :: .ref m_told :: .int 0 :: []))), (m_s, .inl (g 0, 193, .inl (fun _ => 0)))] → va_S A s.heap H locs → lv_has ls 8 [(4, .int 0), (3, .ref oa), (2, .ref mm), (1, .ref x), (0, .ref b)] → W p l e room_1 s m #[Value.ref b] below meth c H locs 114 6056 (lw_Z below #[Value.ref b] s) (F0 m 703 ls []) := by
  obtain ⟨hx, hb, hr, hml, hown, hts0, hX, hbl, hlocks, hgv⟩ := id C0
  have hts : ∀ w ∈ wsL_law, w.before _ s = true := fun w h => hts0 w (wsL_law_in w h)
  intro H locs ls hP hD hS hl
  refine lv_aload_n hx hb dL_law_703 rfl (lv_at hl 3 rfl) ?_
  refine lv_aload_n hx hb dL_law_704 rfl (lv_at hl 4 rfl) ?_
  refine lv_iload hx hb dL_law_705 (lv_at hl 0 rfl) ?_
  refine lv_iconst (v := 1) hx hb dL_law_707 (by decide) ?_
  refine lv_iadd hx hb dL_law_708 ?_
  refine tz_i (y := 1) (by decide +kernel) ?_
  refine va_sld hx hb hX hbl hbA hS (tz_in (by decide +kernel)) dL_law_709 ?_
  refine tz_i (y := xs 1) (congrArg xs (by decide +kernel)) ?_
  refine lv_aload_n hx hb dL_law_710 rfl (lv_at hl 4 rfl) ?_
  refine lv_iload hx hb dL_law_711 (lv_at hl 0 rfl) ?_
  refine lv_iconst (v := 2) hx hb dL_law_713 (by decide) ?_
  refine lv_iadd hx hb dL_law_714 ?_
  refine tz_i (y := 2) (by decide +kernel) ?_
  refine va_sld hx hb hX hbl hbA hS (tz_in (by decide +kernel)) dL_law_715 ?_
  refine tz_i (y := xs 2) (congrArg xs (by decide +kernel)) ?_
  have hPc := hP.sub (ws' := [(x, .inr (11, [.ref tp, .ref n, .ref dr, .ref x_images, .ref x_kept, .ref rd, .ref st, .ref tl, .ref rg, .ref sv, .ref oc, .ref x_tried, .ref lf, .int 0, .ref x_stoppedWays, .ref x_stoppedWorth, .int 0, .ref x_withinWorth])), (n, .inr (2, [.int 0, .ref n_kind, .ref n_pay, .ref n_name, .ref n_ways, .ref n_held, .ref n_targets, .ref n_weights]))]) [0, 1] rfl
  refine vp_callSi (va_Run.run (va_runV (As := [.int (xs 1), .int (xs 2)]) (rest := []) ⟨hx, hb, hml, hown, hts⟩ (c_X11_hold l D g x (xs 1) (xs 2) tp n dr x_images x_kept rd st tl rg sv oc x_tried lf x_stoppedWays x_stoppedWorth x_withinWorth n_kind n_pay n_name n_ways n_held n_targets n_weights) (cwV 2 hts (tz_gV qw_675 qw_676 qw_677 qw_165 qw_678) rfl rfl rfl (by decide +kernel) ⟨Nat.le_of_ble_eq_true rfl, Nat.le_of_ble_eq_true rfl⟩) ⟨tz_blS, va_recv hK hPc (ci := 11) (q0 := 0) rfl rfl, tz_preS hPc hK⟩ rfl rfl hl.1 rfl (lv_room (Nat.le_of_ble_eq_true rfl)) dL_law_716 ⟨Nat.le_of_ble_eq_true rfl, Nat.le_of_ble_eq_true rfl⟩)) (fun r_683 hw => ?_)
  subst hw
  refine lv_aload_n hx hb dL_law_719 rfl (lv_at hl 2 rfl) ?_
  refine lv_aload_n hx hb dL_law_720 rfl (lv_at hl 4 rfl) ?_
  refine lv_iload hx hb dL_law_721 (lv_at hl 0 rfl) ?_
  refine lv_iconst (v := 1) hx hb dL_law_723 (by decide) ?_
  refine lv_iadd hx hb dL_law_724 ?_
  refine tz_i (y := 1) (by decide +kernel) ?_
  refine va_sld hx hb hX hbl hbA hS (tz_in (by decide +kernel)) dL_law_725 ?_
  refine tz_i (y := xs 1) (congrArg xs (by decide +kernel)) ?_
  refine lv_aload_n hx hb dL_law_726 rfl (lv_at hl 4 rfl) ?_
  refine lv_iload hx hb dL_law_727 (lv_at hl 0 rfl) ?_
  refine lv_iconst (v := 2) hx hb dL_law_729 (by decide) ?_
  refine lv_iadd hx hb dL_law_730 ?_
  refine tz_i (y := 2) (by decide +kernel) ?_
  refine va_sld hx hb hX hbl hbA hS (tz_in (by decide +kernel)) dL_law_731 ?_
  refine tz_i (y := xs 2) (congrArg xs (by decide +kernel)) ?_
  have hPc := hP.sub (ws' := [(mm, .inr (12, (.int 0 :: .ref m_s :: .ref m_spare :: .ref m_kept :: .ref m_undone :: .ref m_triedWay :: .ref m_isKept :: .int 0 :: .ref m_tape :: .int 0 :: .int 0 :: .int 0 :: .int 0 :: .int 0 :: .int 0 :: .int 0 :: .int 0 :: .int 0 :: .ref m_letters :: .int 0 :: .ref m_choice :: .ref m_row :: .ref m_up :: .ref m_low :: .ref m_m :: .ref m_bestUp :: .ref m_bestLow :: .ref m_replyUp :: .ref m_replyLow :: .ref m_worthUp :: .ref m_worthLow :: .ref m_bestWay :: .int 0 :: .ref m_told :: .int 0 :: []))), (m_s, .inl (g 0, 193, .inl (fun _ => 0)))]) [2, 3] rfl
  have hDc := hD.sub (ws' := [(mm, .inr (12, (.int 0 :: .ref m_s :: .ref m_spare :: .ref m_kept :: .ref m_undone :: .ref m_triedWay :: .ref m_isKept :: .int 0 :: .ref m_tape :: .int 0 :: .int 0 :: .int 0 :: .int 0 :: .int 0 :: .int 0 :: .int 0 :: .int 0 :: .int 0 :: .ref m_letters :: .int 0 :: .ref m_choice :: .ref m_row :: .ref m_up :: .ref m_low :: .ref m_m :: .ref m_bestUp :: .ref m_bestLow :: .ref m_replyUp :: .ref m_replyLow :: .ref m_worthUp :: .ref m_worthLow :: .ref m_bestWay :: .int 0 :: .ref m_told :: .int 0 :: []))), (m_s, .inl (g 0, 193, .inl (fun _ => 0)))]) [2, 3] (by decide) rfl
  have hFc := va_free (wc := [(mm, .inr (12, (.int 0 :: .ref m_s :: .ref m_spare :: .ref m_kept :: .ref m_undone :: .ref m_triedWay :: .ref m_isKept :: .int 0 :: .ref m_tape :: .int 0 :: .int 0 :: .int 0 :: .int 0 :: .int 0 :: .int 0 :: .int 0 :: .int 0 :: .int 0 :: .ref m_letters :: .int 0 :: .ref m_choice :: .ref m_row :: .ref m_up :: .ref m_low :: .ref m_m :: .ref m_bestUp :: .ref m_bestLow :: .ref m_replyUp :: .ref m_replyLow :: .ref m_worthUp :: .ref m_worthLow :: .ref m_bestWay :: .int 0 :: .ref m_told :: .int 0 :: []))), (m_s, .inl (g 0, 193, .inl (fun _ => 0)))]) hD hS hA [2, 3] rfl
  refine va_calli (va_runV (As := [.int (xs 1), .int (xs 2)]) (rest := [.int (-1)]) ⟨hx, hb, hml, hown, hts⟩ (c_X12_hold l D g H.size mm (xs 1) (xs 2) 0 m_s m_spare m_kept m_undone m_triedWay m_isKept 0 m_tape 0 0 0 0 0 0 0 0 0 m_letters m_choice m_row m_up m_low m_m m_bestUp m_bestLow m_replyUp m_replyLow m_worthUp m_worthLow m_bestWay 0 m_told 0) (cwV 2 hts (tz_gV qw_679 qw_680 qw_681 qw_253 qw_682) rfl rfl rfl (by decide +kernel) ⟨Nat.le_of_ble_eq_true rfl, Nat.le_of_ble_eq_true rfl⟩) ⟨tz_blQ, va_recv hK hPc (ci := 12) (q0 := 0) rfl rfl, tz_preQ hPc hK hDc⟩ rfl rfl hl.1 rfl (lv_room (Nat.le_of_ble_eq_true rfl)) dL_law_732 ⟨Nat.le_of_ble_eq_true rfl, Nat.le_of_ble_eq_true rfl⟩) hS (fun q _ h => hFc q h) hFc (fun r_684 u t H1 locs ht hvm hw hB hz1 hk1 hS => ?_)
  obtain ⟨hP, hD⟩ := va_join (wr := [(x, .inr (11, [.ref tp, .ref n, .ref dr, .ref x_images, .ref x_kept, .ref rd, .ref st, .ref tl, .ref rg, .ref sv, .ref oc, .ref x_tried, .ref lf, .int 0, .ref x_stoppedWays, .ref x_stoppedWorth, .int 0, .ref x_withinWorth])), (n, .inr (2, [.int 0, .ref n_kind, .ref n_pay, .ref n_name, .ref n_ways, .ref n_held, .ref n_targets, .ref n_weights]))]) (w1 := []) hP hD [2, 3] [0, 1] rfl rfl (by decide) (by decide) hk1 hFc tz_nilP tz_nilD
  generalize H1 = H at hP hS ⊢
  have hP : va_P D vwCl [(x, .inr (11, [.ref tp, .ref n, .ref dr, .ref x_images, .ref x_kept, .ref rd, .ref st, .ref tl, .ref rg, .ref sv, .ref oc, .ref x_tried, .ref lf, .int 0, .ref x_stoppedWays, .ref x_stoppedWorth, .int 0, .ref x_withinWorth])), (n, .inr (2, [.int 0, .ref n_kind, .ref n_pay, .ref n_name, .ref n_ways, .ref n_held, .ref n_targets, .ref n_weights]))] H := hP
  have hD : va_D A [(x, .inr (11, [.ref tp, .ref n, .ref dr, .ref x_images, .ref x_kept, .ref rd, .ref st, .ref tl, .ref rg, .ref sv, .ref oc, .ref x_tried, .ref lf, .int 0, .ref x_stoppedWays, .ref x_stoppedWorth, .int 0, .ref x_withinWorth])), (n, .inr (2, [.int 0, .ref n_kind, .ref n_pay, .ref n_name, .ref n_ways, .ref n_held, .ref n_targets, .ref n_weights]))] := hD
  subst hw
  refine lv_icmp_eq (tgt := 1475) hx hb dL_law_735 (by decide) (fun _ => ?_) (fun h9 => (h9 (by decide)).elim)
  exact law_end C0 hAl hbA H locs ls _ _ (by decide) (by decide) hS (lv_sub hl [0, 4] rfl)
set_option maxHeartbeats 4000000 in
set_option maxRecDepth 100000 in
theorem law_case_14 {p : Program} {l : Launch} {e : Env} {s : State} {m : MethodId} {below : List Frame} {meth : Method} {c : Code} {b : Nat} {xs : Nat → Int32} {A : Nat → Prop} {D : va_G} {g : Nat → ClassId} (x : Nat) (mm : Nat) (oa : Nat) (tp : Nat) (n : Nat) (dr : Nat) (x_images : Nat) (x_kept : Nat) (rd : Nat) (st : Nat) (tl : Nat) (rg : Nat) (sv : Nat) (oc : Nat) (x_tried : Nat) (lf : Nat) (x_stoppedWays : Nat) (x_stoppedWorth : Nat) (x_withinWorth : Nat) (n_kind : Nat) (n_pay : Nat) (n_name : Nat) (n_ways : Nat) (n_held : Nat) (n_targets : Nat) (n_weights : Nat) (m_s : Nat) (m_spare : Nat) (m_kept : Nat) (m_undone : Nat) (m_triedWay : Nat) (m_isKept : Nat) (m_tape : Nat) (m_letters : Nat) (m_choice : Nat) (m_row : Nat) (m_up : Nat) (m_low : Nat) (m_m : Nat) (m_bestUp : Nat) (m_bestLow : Nat) (m_replyUp : Nat) (m_replyLow : Nat) (m_worthUp : Nat) (m_worthLow : Nat) (m_bestWay : Nat) (m_told : Nat) (hst : l.stackTraces = false) (C0 : lw_At p s m meth c b 6 xs) (hA : ∀ q : Nat, s.heap.size ≤ q → A q) (hAl : ∀ q : Nat, A q → s.heap.size ≤ q) (hbA : ¬ A b) (hK : va_K D vwCl (TY g) s) (hZ : ZT A s s.heap) : ∀ (H : Heap) (locs : List Loc) (ls : Array Slot), va_P D vwCl [(x, .inr (11, [.ref tp, .ref n, .ref dr, .ref x_images, .ref x_kept, .ref rd, .ref st, .ref tl, .ref rg, .ref sv, .ref oc, .ref x_tried, .ref lf, .int 0, .ref x_stoppedWays, .ref x_stoppedWorth, .int 0, .ref x_withinWorth])), (n, .inr (2, [.int 0, .ref n_kind, .ref n_pay, .ref n_name, .ref n_ways, .ref n_held, .ref n_targets, .ref n_weights])), (mm, .inr (12, (.int 0 :: .ref m_s :: .ref m_spare :: .ref m_kept :: .ref m_undone :: .ref m_triedWay :: .ref m_isKept :: .int 0 :: .ref m_tape :: .int 0 :: .int 0 :: .int 0 :: .int 0 :: .int 0 :: .int 0 :: .int 0 :: .int 0 :: .int 0 :: .ref m_letters :: .int 0 :: .ref m_choice :: .ref m_row :: .ref m_up :: .ref m_low :: .ref m_m :: .ref m_bestUp :: .ref m_bestLow :: .ref m_replyUp :: .ref m_replyLow :: .ref m_worthUp :: .ref m_worthLow :: .ref m_bestWay :: .int 0 :: .ref m_told :: .int 0 :: []))), (m_s, .inl (g 0, 193, .inl (fun _ => 0)))] H → va_D A [(x, .inr (11, [.ref tp, .ref n, .ref dr, .ref x_images, .ref x_kept, .ref rd, .ref st, .ref tl, .ref rg, .ref sv, .ref oc, .ref x_tried, .ref lf, .int 0, .ref x_stoppedWays, .ref x_stoppedWorth, .int 0, .ref x_withinWorth])), (n, .inr (2, [.int 0, .ref n_kind, .ref n_pay, .ref n_name, .ref n_ways, .ref n_held, .ref n_targets, .ref n_weights])), (mm, .inr (12, (.int 0 :: .ref m_s :: .ref m_spare :: .ref m_kept :: .ref m_undone :: .ref m_triedWay :: .ref m_isKept :: .int 0 :: .ref m_tape :: .int 0 :: .int 0 :: .int 0 :: .int 0 :: .int 0 :: .int 0 :: .int 0 :: .int 0 :: .int 0 :: .ref m_letters :: .int 0 :: .ref m_choice :: .ref m_row :: .ref m_up :: .ref m_low :: .ref m_m :: .ref m_bestUp :: .ref m_bestLow :: .ref m_replyUp :: .ref m_replyLow :: .ref m_worthUp :: .ref m_worthLow :: .ref m_bestWay :: .int 0 :: .ref m_told :: .int 0 :: []))), (m_s, .inl (g 0, 193, .inl (fun _ => 0)))] → va_S A s.heap H locs → lv_has ls 8 [(4, .int 0), (3, .ref oa), (2, .ref mm), (1, .ref x), (0, .ref b)] → W p l e room_1 s m #[Value.ref b] below meth c H locs 114 6056 (lw_Z below #[Value.ref b] s) (F0 m 740 ls []) := by
  obtain ⟨hx, hb, hr, hml, hown, hts0, hX, hbl, hlocks, hgv⟩ := id C0
  have hts : ∀ w ∈ wsL_law, w.before _ s = true := fun w h => hts0 w (wsL_law_in w h)
  intro H locs ls hP hD hS hl
  refine lv_aload_n hx hb dL_law_740 rfl (lv_at hl 3 rfl) ?_
  refine lv_aload_n hx hb dL_law_741 rfl (lv_at hl 4 rfl) ?_
  refine lv_iload hx hb dL_law_742 (lv_at hl 0 rfl) ?_
  refine lv_iconst (v := 1) hx hb dL_law_744 (by decide) ?_
  refine lv_iadd hx hb dL_law_745 ?_
  refine tz_i (y := 1) (by decide +kernel) ?_
  refine va_sld hx hb hX hbl hbA hS (tz_in (by decide +kernel)) dL_law_746 ?_
  refine tz_i (y := xs 1) (congrArg xs (by decide +kernel)) ?_
  have hPc := hP.sub (ws' := [(x, .inr (11, [.ref tp, .ref n, .ref dr, .ref x_images, .ref x_kept, .ref rd, .ref st, .ref tl, .ref rg, .ref sv, .ref oc, .ref x_tried, .ref lf, .int 0, .ref x_stoppedWays, .ref x_stoppedWorth, .int 0, .ref x_withinWorth])), (n, .inr (2, [.int 0, .ref n_kind, .ref n_pay, .ref n_name, .ref n_ways, .ref n_held, .ref n_targets, .ref n_weights]))]) [0, 1] rfl
  refine vp_callSi (va_Run.run (va_runV (As := [.int (xs 1)]) (rest := []) ⟨hx, hb, hml, hown, hts⟩ (c_X11_free l D g x (xs 1) tp n dr x_images x_kept rd st tl rg sv oc x_tried lf x_stoppedWays x_stoppedWorth x_withinWorth n_kind n_pay n_name n_ways n_held n_targets n_weights) (cwV 1 hts (tz_gV qw_683 qw_684 qw_685 qw_165 qw_686) rfl rfl rfl (by decide +kernel) ⟨Nat.le_of_ble_eq_true rfl, Nat.le_of_ble_eq_true rfl⟩) ⟨tz_blS, va_recv hK hPc (ci := 11) (q0 := 0) rfl rfl, tz_preS hPc hK⟩ rfl rfl hl.1 rfl (lv_room (Nat.le_of_ble_eq_true rfl)) dL_law_747 ⟨Nat.le_of_ble_eq_true rfl, Nat.le_of_ble_eq_true rfl⟩)) (fun r_687 hw => ?_)
  subst hw
  refine lv_aload_n hx hb dL_law_750 rfl (lv_at hl 2 rfl) ?_
  refine lv_aload_n hx hb dL_law_751 rfl (lv_at hl 4 rfl) ?_
  refine lv_iload hx hb dL_law_752 (lv_at hl 0 rfl) ?_
  refine lv_iconst (v := 1) hx hb dL_law_754 (by decide) ?_
  refine lv_iadd hx hb dL_law_755 ?_
  refine tz_i (y := 1) (by decide +kernel) ?_
  refine va_sld hx hb hX hbl hbA hS (tz_in (by decide +kernel)) dL_law_756 ?_
  refine tz_i (y := xs 1) (congrArg xs (by decide +kernel)) ?_
  have hPc := hP.sub (ws' := [(mm, .inr (12, (.int 0 :: .ref m_s :: .ref m_spare :: .ref m_kept :: .ref m_undone :: .ref m_triedWay :: .ref m_isKept :: .int 0 :: .ref m_tape :: .int 0 :: .int 0 :: .int 0 :: .int 0 :: .int 0 :: .int 0 :: .int 0 :: .int 0 :: .int 0 :: .ref m_letters :: .int 0 :: .ref m_choice :: .ref m_row :: .ref m_up :: .ref m_low :: .ref m_m :: .ref m_bestUp :: .ref m_bestLow :: .ref m_replyUp :: .ref m_replyLow :: .ref m_worthUp :: .ref m_worthLow :: .ref m_bestWay :: .int 0 :: .ref m_told :: .int 0 :: []))), (m_s, .inl (g 0, 193, .inl (fun _ => 0)))]) [2, 3] rfl
  have hDc := hD.sub (ws' := [(mm, .inr (12, (.int 0 :: .ref m_s :: .ref m_spare :: .ref m_kept :: .ref m_undone :: .ref m_triedWay :: .ref m_isKept :: .int 0 :: .ref m_tape :: .int 0 :: .int 0 :: .int 0 :: .int 0 :: .int 0 :: .int 0 :: .int 0 :: .int 0 :: .int 0 :: .ref m_letters :: .int 0 :: .ref m_choice :: .ref m_row :: .ref m_up :: .ref m_low :: .ref m_m :: .ref m_bestUp :: .ref m_bestLow :: .ref m_replyUp :: .ref m_replyLow :: .ref m_worthUp :: .ref m_worthLow :: .ref m_bestWay :: .int 0 :: .ref m_told :: .int 0 :: []))), (m_s, .inl (g 0, 193, .inl (fun _ => 0)))]) [2, 3] (by decide) rfl
  have hFc := va_free (wc := [(mm, .inr (12, (.int 0 :: .ref m_s :: .ref m_spare :: .ref m_kept :: .ref m_undone :: .ref m_triedWay :: .ref m_isKept :: .int 0 :: .ref m_tape :: .int 0 :: .int 0 :: .int 0 :: .int 0 :: .int 0 :: .int 0 :: .int 0 :: .int 0 :: .int 0 :: .ref m_letters :: .int 0 :: .ref m_choice :: .ref m_row :: .ref m_up :: .ref m_low :: .ref m_m :: .ref m_bestUp :: .ref m_bestLow :: .ref m_replyUp :: .ref m_replyLow :: .ref m_worthUp :: .ref m_worthLow :: .ref m_bestWay :: .int 0 :: .ref m_told :: .int 0 :: []))), (m_s, .inl (g 0, 193, .inl (fun _ => 0)))]) hD hS hA [2, 3] rfl
  refine va_calli (va_runV (As := [.int (xs 1)]) (rest := [.int (-1)]) ⟨hx, hb, hml, hown, hts⟩ (c_X12_free l D g H.size mm (xs 1) 0 m_s m_spare m_kept m_undone m_triedWay m_isKept 0 m_tape 0 0 0 0 0 0 0 0 0 m_letters m_choice m_row m_up m_low m_m m_bestUp m_bestLow m_replyUp m_replyLow m_worthUp m_worthLow m_bestWay 0 m_told 0) (cwV 1 hts (tz_gV qw_687 qw_688 qw_689 qw_253 qw_690) rfl rfl rfl (by decide +kernel) ⟨Nat.le_of_ble_eq_true rfl, Nat.le_of_ble_eq_true rfl⟩) ⟨tz_blQ, va_recv hK hPc (ci := 12) (q0 := 0) rfl rfl, tz_preQ hPc hK hDc⟩ rfl rfl hl.1 rfl (lv_room (Nat.le_of_ble_eq_true rfl)) dL_law_757 ⟨Nat.le_of_ble_eq_true rfl, Nat.le_of_ble_eq_true rfl⟩) hS (fun q _ h => hFc q h) hFc (fun r_688 u t H1 locs ht hvm hw hB hz1 hk1 hS => ?_)
  obtain ⟨hP, hD⟩ := va_join (wr := [(x, .inr (11, [.ref tp, .ref n, .ref dr, .ref x_images, .ref x_kept, .ref rd, .ref st, .ref tl, .ref rg, .ref sv, .ref oc, .ref x_tried, .ref lf, .int 0, .ref x_stoppedWays, .ref x_stoppedWorth, .int 0, .ref x_withinWorth])), (n, .inr (2, [.int 0, .ref n_kind, .ref n_pay, .ref n_name, .ref n_ways, .ref n_held, .ref n_targets, .ref n_weights]))]) (w1 := []) hP hD [2, 3] [0, 1] rfl rfl (by decide) (by decide) hk1 hFc tz_nilP tz_nilD
  generalize H1 = H at hP hS ⊢
  have hP : va_P D vwCl [(x, .inr (11, [.ref tp, .ref n, .ref dr, .ref x_images, .ref x_kept, .ref rd, .ref st, .ref tl, .ref rg, .ref sv, .ref oc, .ref x_tried, .ref lf, .int 0, .ref x_stoppedWays, .ref x_stoppedWorth, .int 0, .ref x_withinWorth])), (n, .inr (2, [.int 0, .ref n_kind, .ref n_pay, .ref n_name, .ref n_ways, .ref n_held, .ref n_targets, .ref n_weights]))] H := hP
  have hD : va_D A [(x, .inr (11, [.ref tp, .ref n, .ref dr, .ref x_images, .ref x_kept, .ref rd, .ref st, .ref tl, .ref rg, .ref sv, .ref oc, .ref x_tried, .ref lf, .int 0, .ref x_stoppedWays, .ref x_stoppedWorth, .int 0, .ref x_withinWorth])), (n, .inr (2, [.int 0, .ref n_kind, .ref n_pay, .ref n_name, .ref n_ways, .ref n_held, .ref n_targets, .ref n_weights]))] := hD
  subst hw
  refine lv_icmp_eq (tgt := 1475) hx hb dL_law_760 (by decide) (fun _ => ?_) (fun h9 => (h9 (by decide)).elim)
  exact law_end C0 hAl hbA H locs ls _ _ (by decide) (by decide) hS (lv_sub hl [0, 4] rfl)
set_option maxHeartbeats 4000000 in
set_option maxRecDepth 100000 in
theorem law_case_15 {p : Program} {l : Launch} {e : Env} {s : State} {m : MethodId} {below : List Frame} {meth : Method} {c : Code} {b : Nat} {xs : Nat → Int32} {A : Nat → Prop} {D : va_G} {g : Nat → ClassId} (x : Nat) (mm : Nat) (oa : Nat) (tp : Nat) (n : Nat) (dr : Nat) (x_images : Nat) (x_kept : Nat) (rd : Nat) (st : Nat) (tl : Nat) (rg : Nat) (sv : Nat) (oc : Nat) (x_tried : Nat) (lf : Nat) (x_stoppedWays : Nat) (x_stoppedWorth : Nat) (x_withinWorth : Nat) (n_kind : Nat) (n_pay : Nat) (n_name : Nat) (n_ways : Nat) (n_held : Nat) (n_targets : Nat) (n_weights : Nat) (m_s : Nat) (m_spare : Nat) (m_kept : Nat) (m_undone : Nat) (m_triedWay : Nat) (m_isKept : Nat) (m_tape : Nat) (m_letters : Nat) (m_choice : Nat) (m_row : Nat) (m_up : Nat) (m_low : Nat) (m_m : Nat) (m_bestUp : Nat) (m_bestLow : Nat) (m_replyUp : Nat) (m_replyLow : Nat) (m_worthUp : Nat) (m_worthLow : Nat) (m_bestWay : Nat) (m_told : Nat) (hst : l.stackTraces = false) (C0 : lw_At p s m meth c b 6 xs) (hA : ∀ q : Nat, s.heap.size ≤ q → A q) (hAl : ∀ q : Nat, A q → s.heap.size ≤ q) (hbA : ¬ A b) (hK : va_K D vwCl (TY g) s) (hZ : ZT A s s.heap) : ∀ (H : Heap) (locs : List Loc) (ls : Array Slot), va_P D vwCl [(x, .inr (11, [.ref tp, .ref n, .ref dr, .ref x_images, .ref x_kept, .ref rd, .ref st, .ref tl, .ref rg, .ref sv, .ref oc, .ref x_tried, .ref lf, .int 0, .ref x_stoppedWays, .ref x_stoppedWorth, .int 0, .ref x_withinWorth])), (n, .inr (2, [.int 0, .ref n_kind, .ref n_pay, .ref n_name, .ref n_ways, .ref n_held, .ref n_targets, .ref n_weights])), (mm, .inr (12, (.int 0 :: .ref m_s :: .ref m_spare :: .ref m_kept :: .ref m_undone :: .ref m_triedWay :: .ref m_isKept :: .int 0 :: .ref m_tape :: .int 0 :: .int 0 :: .int 0 :: .int 0 :: .int 0 :: .int 0 :: .int 0 :: .int 0 :: .int 0 :: .ref m_letters :: .int 0 :: .ref m_choice :: .ref m_row :: .ref m_up :: .ref m_low :: .ref m_m :: .ref m_bestUp :: .ref m_bestLow :: .ref m_replyUp :: .ref m_replyLow :: .ref m_worthUp :: .ref m_worthLow :: .ref m_bestWay :: .int 0 :: .ref m_told :: .int 0 :: []))), (m_s, .inl (g 0, 193, .inl (fun _ => 0)))] H → va_D A [(x, .inr (11, [.ref tp, .ref n, .ref dr, .ref x_images, .ref x_kept, .ref rd, .ref st, .ref tl, .ref rg, .ref sv, .ref oc, .ref x_tried, .ref lf, .int 0, .ref x_stoppedWays, .ref x_stoppedWorth, .int 0, .ref x_withinWorth])), (n, .inr (2, [.int 0, .ref n_kind, .ref n_pay, .ref n_name, .ref n_ways, .ref n_held, .ref n_targets, .ref n_weights])), (mm, .inr (12, (.int 0 :: .ref m_s :: .ref m_spare :: .ref m_kept :: .ref m_undone :: .ref m_triedWay :: .ref m_isKept :: .int 0 :: .ref m_tape :: .int 0 :: .int 0 :: .int 0 :: .int 0 :: .int 0 :: .int 0 :: .int 0 :: .int 0 :: .int 0 :: .ref m_letters :: .int 0 :: .ref m_choice :: .ref m_row :: .ref m_up :: .ref m_low :: .ref m_m :: .ref m_bestUp :: .ref m_bestLow :: .ref m_replyUp :: .ref m_replyLow :: .ref m_worthUp :: .ref m_worthLow :: .ref m_bestWay :: .int 0 :: .ref m_told :: .int 0 :: []))), (m_s, .inl (g 0, 193, .inl (fun _ => 0)))] → va_S A s.heap H locs → lv_has ls 8 [(4, .int 0), (3, .ref oa), (2, .ref mm), (1, .ref x), (0, .ref b)] → W p l e room_1 s m #[Value.ref b] below meth c H locs 114 6056 (lw_Z below #[Value.ref b] s) (F0 m 765 ls []) := by
  obtain ⟨hx, hb, hr, hml, hown, hts0, hX, hbl, hlocks, hgv⟩ := id C0
  have hts : ∀ w ∈ wsL_law, w.before _ s = true := fun w h => hts0 w (wsL_law_in w h)
  intro H locs ls hP hD hS hl
  refine lv_aload_n hx hb dL_law_765 rfl (lv_at hl 3 rfl) ?_
  refine lv_aload_n hx hb dL_law_766 rfl (lv_at hl 4 rfl) ?_
  refine lv_iload hx hb dL_law_767 (lv_at hl 0 rfl) ?_
  refine lv_iconst (v := 1) hx hb dL_law_769 (by decide) ?_
  refine lv_iadd hx hb dL_law_770 ?_
  refine tz_i (y := 1) (by decide +kernel) ?_
  refine va_sld hx hb hX hbl hbA hS (tz_in (by decide +kernel)) dL_law_771 ?_
  refine tz_i (y := xs 1) (congrArg xs (by decide +kernel)) ?_
  refine lv_aload_n hx hb dL_law_772 rfl (lv_at hl 4 rfl) ?_
  refine lv_iload hx hb dL_law_773 (lv_at hl 0 rfl) ?_
  refine lv_iconst (v := 2) hx hb dL_law_775 (by decide) ?_
  refine lv_iadd hx hb dL_law_776 ?_
  refine tz_i (y := 2) (by decide +kernel) ?_
  refine va_sld hx hb hX hbl hbA hS (tz_in (by decide +kernel)) dL_law_777 ?_
  refine tz_i (y := xs 2) (congrArg xs (by decide +kernel)) ?_
  refine lv_aload_n hx hb dL_law_778 rfl (lv_at hl 4 rfl) ?_
  refine lv_iload hx hb dL_law_779 (lv_at hl 0 rfl) ?_
  refine lv_iconst (v := 3) hx hb dL_law_781 (by decide) ?_
  refine lv_iadd hx hb dL_law_782 ?_
  refine tz_i (y := 3) (by decide +kernel) ?_
  refine va_sld hx hb hX hbl hbA hS (tz_in (by decide +kernel)) dL_law_783 ?_
  refine tz_i (y := xs 3) (congrArg xs (by decide +kernel)) ?_
  have hPc := hP.sub (ws' := [(x, .inr (11, [.ref tp, .ref n, .ref dr, .ref x_images, .ref x_kept, .ref rd, .ref st, .ref tl, .ref rg, .ref sv, .ref oc, .ref x_tried, .ref lf, .int 0, .ref x_stoppedWays, .ref x_stoppedWorth, .int 0, .ref x_withinWorth])), (n, .inr (2, [.int 0, .ref n_kind, .ref n_pay, .ref n_name, .ref n_ways, .ref n_held, .ref n_targets, .ref n_weights]))]) [0, 1] rfl
  refine vp_callSi (va_Run.run (va_runV (As := [.int (xs 1), .int (xs 2), .int (xs 3)]) (rest := []) ⟨hx, hb, hml, hown, hts⟩ (c_X11_weigh l D g x (xs 1) (xs 2) (xs 3) tp n dr x_images x_kept rd st tl rg sv oc x_tried lf x_stoppedWays x_stoppedWorth x_withinWorth n_kind n_pay n_name n_ways n_held n_targets n_weights) (cwV 3 hts (tz_gV qw_691 qw_692 qw_693 qw_165 qw_694) rfl rfl rfl (by decide +kernel) ⟨Nat.le_of_ble_eq_true rfl, Nat.le_of_ble_eq_true rfl⟩) ⟨tz_blS, va_recv hK hPc (ci := 11) (q0 := 0) rfl rfl, tz_preS hPc hK⟩ rfl rfl hl.1 rfl (lv_room (Nat.le_of_ble_eq_true rfl)) dL_law_784 ⟨Nat.le_of_ble_eq_true rfl, Nat.le_of_ble_eq_true rfl⟩)) (fun r_691 hw => ?_)
  subst hw
  refine lv_aload_n hx hb dL_law_787 rfl (lv_at hl 2 rfl) ?_
  refine lv_aload_n hx hb dL_law_788 rfl (lv_at hl 4 rfl) ?_
  refine lv_iload hx hb dL_law_789 (lv_at hl 0 rfl) ?_
  refine lv_iconst (v := 1) hx hb dL_law_791 (by decide) ?_
  refine lv_iadd hx hb dL_law_792 ?_
  refine tz_i (y := 1) (by decide +kernel) ?_
  refine va_sld hx hb hX hbl hbA hS (tz_in (by decide +kernel)) dL_law_793 ?_
  refine tz_i (y := xs 1) (congrArg xs (by decide +kernel)) ?_
  refine lv_aload_n hx hb dL_law_794 rfl (lv_at hl 4 rfl) ?_
  refine lv_iload hx hb dL_law_795 (lv_at hl 0 rfl) ?_
  refine lv_iconst (v := 2) hx hb dL_law_797 (by decide) ?_
  refine lv_iadd hx hb dL_law_798 ?_
  refine tz_i (y := 2) (by decide +kernel) ?_
  refine va_sld hx hb hX hbl hbA hS (tz_in (by decide +kernel)) dL_law_799 ?_
  refine tz_i (y := xs 2) (congrArg xs (by decide +kernel)) ?_
  refine lv_aload_n hx hb dL_law_800 rfl (lv_at hl 4 rfl) ?_
  refine lv_iload hx hb dL_law_801 (lv_at hl 0 rfl) ?_
  refine lv_iconst (v := 3) hx hb dL_law_803 (by decide) ?_
  refine lv_iadd hx hb dL_law_804 ?_
  refine tz_i (y := 3) (by decide +kernel) ?_
  refine va_sld hx hb hX hbl hbA hS (tz_in (by decide +kernel)) dL_law_805 ?_
  refine tz_i (y := xs 3) (congrArg xs (by decide +kernel)) ?_
  have hPc := hP.sub (ws' := [(mm, .inr (12, (.int 0 :: .ref m_s :: .ref m_spare :: .ref m_kept :: .ref m_undone :: .ref m_triedWay :: .ref m_isKept :: .int 0 :: .ref m_tape :: .int 0 :: .int 0 :: .int 0 :: .int 0 :: .int 0 :: .int 0 :: .int 0 :: .int 0 :: .int 0 :: .ref m_letters :: .int 0 :: .ref m_choice :: .ref m_row :: .ref m_up :: .ref m_low :: .ref m_m :: .ref m_bestUp :: .ref m_bestLow :: .ref m_replyUp :: .ref m_replyLow :: .ref m_worthUp :: .ref m_worthLow :: .ref m_bestWay :: .int 0 :: .ref m_told :: .int 0 :: []))), (m_s, .inl (g 0, 193, .inl (fun _ => 0)))]) [2, 3] rfl
  have hDc := hD.sub (ws' := [(mm, .inr (12, (.int 0 :: .ref m_s :: .ref m_spare :: .ref m_kept :: .ref m_undone :: .ref m_triedWay :: .ref m_isKept :: .int 0 :: .ref m_tape :: .int 0 :: .int 0 :: .int 0 :: .int 0 :: .int 0 :: .int 0 :: .int 0 :: .int 0 :: .int 0 :: .ref m_letters :: .int 0 :: .ref m_choice :: .ref m_row :: .ref m_up :: .ref m_low :: .ref m_m :: .ref m_bestUp :: .ref m_bestLow :: .ref m_replyUp :: .ref m_replyLow :: .ref m_worthUp :: .ref m_worthLow :: .ref m_bestWay :: .int 0 :: .ref m_told :: .int 0 :: []))), (m_s, .inl (g 0, 193, .inl (fun _ => 0)))]) [2, 3] (by decide) rfl
  have hFc := va_free (wc := [(mm, .inr (12, (.int 0 :: .ref m_s :: .ref m_spare :: .ref m_kept :: .ref m_undone :: .ref m_triedWay :: .ref m_isKept :: .int 0 :: .ref m_tape :: .int 0 :: .int 0 :: .int 0 :: .int 0 :: .int 0 :: .int 0 :: .int 0 :: .int 0 :: .int 0 :: .ref m_letters :: .int 0 :: .ref m_choice :: .ref m_row :: .ref m_up :: .ref m_low :: .ref m_m :: .ref m_bestUp :: .ref m_bestLow :: .ref m_replyUp :: .ref m_replyLow :: .ref m_worthUp :: .ref m_worthLow :: .ref m_bestWay :: .int 0 :: .ref m_told :: .int 0 :: []))), (m_s, .inl (g 0, 193, .inl (fun _ => 0)))]) hD hS hA [2, 3] rfl
  refine va_calli (va_runV (As := [.int (xs 1), .int (xs 2), .int (xs 3)]) (rest := [.int (-1)]) ⟨hx, hb, hml, hown, hts⟩ (c_X12_weigh l D g H.size mm (xs 1) (xs 2) (xs 3) 0 m_s m_spare m_kept m_undone m_triedWay m_isKept 0 m_tape 0 0 0 0 0 0 0 0 0 m_letters m_choice m_row m_up m_low m_m m_bestUp m_bestLow m_replyUp m_replyLow m_worthUp m_worthLow m_bestWay 0 m_told 0) (cwV 3 hts (tz_gV qw_695 qw_696 qw_697 qw_253 qw_698) rfl rfl rfl (by decide +kernel) ⟨Nat.le_of_ble_eq_true rfl, Nat.le_of_ble_eq_true rfl⟩) ⟨tz_blQ, va_recv hK hPc (ci := 12) (q0 := 0) rfl rfl, tz_preQ hPc hK hDc⟩ rfl rfl hl.1 rfl (lv_room (Nat.le_of_ble_eq_true rfl)) dL_law_806 ⟨Nat.le_of_ble_eq_true rfl, Nat.le_of_ble_eq_true rfl⟩) hS (fun q _ h => hFc q h) hFc (fun r_692 u t H1 locs ht hvm hw hB hz1 hk1 hS => ?_)
  obtain ⟨hP, hD⟩ := va_join (wr := [(x, .inr (11, [.ref tp, .ref n, .ref dr, .ref x_images, .ref x_kept, .ref rd, .ref st, .ref tl, .ref rg, .ref sv, .ref oc, .ref x_tried, .ref lf, .int 0, .ref x_stoppedWays, .ref x_stoppedWorth, .int 0, .ref x_withinWorth])), (n, .inr (2, [.int 0, .ref n_kind, .ref n_pay, .ref n_name, .ref n_ways, .ref n_held, .ref n_targets, .ref n_weights]))]) (w1 := []) hP hD [2, 3] [0, 1] rfl rfl (by decide) (by decide) hk1 hFc tz_nilP tz_nilD
  generalize H1 = H at hP hS ⊢
  have hP : va_P D vwCl [(x, .inr (11, [.ref tp, .ref n, .ref dr, .ref x_images, .ref x_kept, .ref rd, .ref st, .ref tl, .ref rg, .ref sv, .ref oc, .ref x_tried, .ref lf, .int 0, .ref x_stoppedWays, .ref x_stoppedWorth, .int 0, .ref x_withinWorth])), (n, .inr (2, [.int 0, .ref n_kind, .ref n_pay, .ref n_name, .ref n_ways, .ref n_held, .ref n_targets, .ref n_weights]))] H := hP
  have hD : va_D A [(x, .inr (11, [.ref tp, .ref n, .ref dr, .ref x_images, .ref x_kept, .ref rd, .ref st, .ref tl, .ref rg, .ref sv, .ref oc, .ref x_tried, .ref lf, .int 0, .ref x_stoppedWays, .ref x_stoppedWorth, .int 0, .ref x_withinWorth])), (n, .inr (2, [.int 0, .ref n_kind, .ref n_pay, .ref n_name, .ref n_ways, .ref n_held, .ref n_targets, .ref n_weights]))] := hD
  subst hw
  refine lv_icmp_eq (tgt := 1475) hx hb dL_law_809 (by decide) (fun _ => ?_) (fun h9 => (h9 (by decide)).elim)
  exact law_end C0 hAl hbA H locs ls _ _ (by decide) (by decide) hS (lv_sub hl [0, 4] rfl)
set_option maxHeartbeats 4000000 in
set_option maxRecDepth 100000 in
theorem law_case_16 {p : Program} {l : Launch} {e : Env} {s : State} {m : MethodId} {below : List Frame} {meth : Method} {c : Code} {b : Nat} {xs : Nat → Int32} {A : Nat → Prop} {D : va_G} {g : Nat → ClassId} (x : Nat) (mm : Nat) (oa : Nat) (tp : Nat) (n : Nat) (dr : Nat) (x_images : Nat) (x_kept : Nat) (rd : Nat) (st : Nat) (tl : Nat) (rg : Nat) (sv : Nat) (oc : Nat) (x_tried : Nat) (lf : Nat) (x_stoppedWays : Nat) (x_stoppedWorth : Nat) (x_withinWorth : Nat) (n_kind : Nat) (n_pay : Nat) (n_name : Nat) (n_ways : Nat) (n_held : Nat) (n_targets : Nat) (n_weights : Nat) (m_s : Nat) (m_spare : Nat) (m_kept : Nat) (m_undone : Nat) (m_triedWay : Nat) (m_isKept : Nat) (m_tape : Nat) (m_letters : Nat) (m_choice : Nat) (m_row : Nat) (m_up : Nat) (m_low : Nat) (m_m : Nat) (m_bestUp : Nat) (m_bestLow : Nat) (m_replyUp : Nat) (m_replyLow : Nat) (m_worthUp : Nat) (m_worthLow : Nat) (m_bestWay : Nat) (m_told : Nat) (hst : l.stackTraces = false) (C0 : lw_At p s m meth c b 6 xs) (hA : ∀ q : Nat, s.heap.size ≤ q → A q) (hAl : ∀ q : Nat, A q → s.heap.size ≤ q) (hbA : ¬ A b) (hK : va_K D vwCl (TY g) s) (hZ : ZT A s s.heap) : ∀ (H : Heap) (locs : List Loc) (ls : Array Slot), va_P D vwCl [(x, .inr (11, [.ref tp, .ref n, .ref dr, .ref x_images, .ref x_kept, .ref rd, .ref st, .ref tl, .ref rg, .ref sv, .ref oc, .ref x_tried, .ref lf, .int 0, .ref x_stoppedWays, .ref x_stoppedWorth, .int 0, .ref x_withinWorth])), (n, .inr (2, [.int 0, .ref n_kind, .ref n_pay, .ref n_name, .ref n_ways, .ref n_held, .ref n_targets, .ref n_weights])), (mm, .inr (12, (.int 0 :: .ref m_s :: .ref m_spare :: .ref m_kept :: .ref m_undone :: .ref m_triedWay :: .ref m_isKept :: .int 0 :: .ref m_tape :: .int 0 :: .int 0 :: .int 0 :: .int 0 :: .int 0 :: .int 0 :: .int 0 :: .int 0 :: .int 0 :: .ref m_letters :: .int 0 :: .ref m_choice :: .ref m_row :: .ref m_up :: .ref m_low :: .ref m_m :: .ref m_bestUp :: .ref m_bestLow :: .ref m_replyUp :: .ref m_replyLow :: .ref m_worthUp :: .ref m_worthLow :: .ref m_bestWay :: .int 0 :: .ref m_told :: .int 0 :: []))), (m_s, .inl (g 0, 193, .inl (fun _ => 0)))] H → va_D A [(x, .inr (11, [.ref tp, .ref n, .ref dr, .ref x_images, .ref x_kept, .ref rd, .ref st, .ref tl, .ref rg, .ref sv, .ref oc, .ref x_tried, .ref lf, .int 0, .ref x_stoppedWays, .ref x_stoppedWorth, .int 0, .ref x_withinWorth])), (n, .inr (2, [.int 0, .ref n_kind, .ref n_pay, .ref n_name, .ref n_ways, .ref n_held, .ref n_targets, .ref n_weights])), (mm, .inr (12, (.int 0 :: .ref m_s :: .ref m_spare :: .ref m_kept :: .ref m_undone :: .ref m_triedWay :: .ref m_isKept :: .int 0 :: .ref m_tape :: .int 0 :: .int 0 :: .int 0 :: .int 0 :: .int 0 :: .int 0 :: .int 0 :: .int 0 :: .int 0 :: .ref m_letters :: .int 0 :: .ref m_choice :: .ref m_row :: .ref m_up :: .ref m_low :: .ref m_m :: .ref m_bestUp :: .ref m_bestLow :: .ref m_replyUp :: .ref m_replyLow :: .ref m_worthUp :: .ref m_worthLow :: .ref m_bestWay :: .int 0 :: .ref m_told :: .int 0 :: []))), (m_s, .inl (g 0, 193, .inl (fun _ => 0)))] → va_S A s.heap H locs → lv_has ls 8 [(4, .int 0), (3, .ref oa), (2, .ref mm), (1, .ref x), (0, .ref b)] → W p l e room_1 s m #[Value.ref b] below meth c H locs 114 6056 (lw_Z below #[Value.ref b] s) (F0 m 814 ls []) := by
  obtain ⟨hx, hb, hr, hml, hown, hts0, hX, hbl, hlocks, hgv⟩ := id C0
  have hts : ∀ w ∈ wsL_law, w.before _ s = true := fun w h => hts0 w (wsL_law_in w h)
  intro H locs ls hP hD hS hl
  refine lv_aload_n hx hb dL_law_814 rfl (lv_at hl 3 rfl) ?_
  refine lv_aload_n hx hb dL_law_815 rfl (lv_at hl 4 rfl) ?_
  refine lv_iload hx hb dL_law_816 (lv_at hl 0 rfl) ?_
  refine lv_iconst (v := 1) hx hb dL_law_818 (by decide) ?_
  refine lv_iadd hx hb dL_law_819 ?_
  refine tz_i (y := 1) (by decide +kernel) ?_
  refine va_sld hx hb hX hbl hbA hS (tz_in (by decide +kernel)) dL_law_820 ?_
  refine tz_i (y := xs 1) (congrArg xs (by decide +kernel)) ?_
  refine lv_aload_n hx hb dL_law_821 rfl (lv_at hl 4 rfl) ?_
  refine lv_iload hx hb dL_law_822 (lv_at hl 0 rfl) ?_
  refine lv_iconst (v := 2) hx hb dL_law_824 (by decide) ?_
  refine lv_iadd hx hb dL_law_825 ?_
  refine tz_i (y := 2) (by decide +kernel) ?_
  refine va_sld hx hb hX hbl hbA hS (tz_in (by decide +kernel)) dL_law_826 ?_
  refine tz_i (y := xs 2) (congrArg xs (by decide +kernel)) ?_
  have hPc := hP.sub (ws' := [(x, .inr (11, [.ref tp, .ref n, .ref dr, .ref x_images, .ref x_kept, .ref rd, .ref st, .ref tl, .ref rg, .ref sv, .ref oc, .ref x_tried, .ref lf, .int 0, .ref x_stoppedWays, .ref x_stoppedWorth, .int 0, .ref x_withinWorth])), (n, .inr (2, [.int 0, .ref n_kind, .ref n_pay, .ref n_name, .ref n_ways, .ref n_held, .ref n_targets, .ref n_weights]))]) [0, 1] rfl
  refine vp_callSi (va_Run.run (va_runV (As := [.int (xs 1), .int (xs 2)]) (rest := []) ⟨hx, hb, hml, hown, hts⟩ (c_X11_pay l D g x (xs 1) (xs 2) tp n dr x_images x_kept rd st tl rg sv oc x_tried lf x_stoppedWays x_stoppedWorth x_withinWorth n_kind n_pay n_name n_ways n_held n_targets n_weights) (cwV 2 hts (tz_gV qw_699 qw_700 qw_701 qw_165 qw_702) rfl rfl rfl (by decide +kernel) ⟨Nat.le_of_ble_eq_true rfl, Nat.le_of_ble_eq_true rfl⟩) ⟨tz_blS, va_recv hK hPc (ci := 11) (q0 := 0) rfl rfl, tz_preS hPc hK⟩ rfl rfl hl.1 rfl (lv_room (Nat.le_of_ble_eq_true rfl)) dL_law_827 ⟨Nat.le_of_ble_eq_true rfl, Nat.le_of_ble_eq_true rfl⟩)) (fun r_695 hw => ?_)
  subst hw
  refine lv_aload_n hx hb dL_law_830 rfl (lv_at hl 2 rfl) ?_
  refine lv_aload_n hx hb dL_law_831 rfl (lv_at hl 4 rfl) ?_
  refine lv_iload hx hb dL_law_832 (lv_at hl 0 rfl) ?_
  refine lv_iconst (v := 1) hx hb dL_law_834 (by decide) ?_
  refine lv_iadd hx hb dL_law_835 ?_
  refine tz_i (y := 1) (by decide +kernel) ?_
  refine va_sld hx hb hX hbl hbA hS (tz_in (by decide +kernel)) dL_law_836 ?_
  refine tz_i (y := xs 1) (congrArg xs (by decide +kernel)) ?_
  refine lv_aload_n hx hb dL_law_837 rfl (lv_at hl 4 rfl) ?_
  refine lv_iload hx hb dL_law_838 (lv_at hl 0 rfl) ?_
  refine lv_iconst (v := 2) hx hb dL_law_840 (by decide) ?_
  refine lv_iadd hx hb dL_law_841 ?_
  refine tz_i (y := 2) (by decide +kernel) ?_
  refine va_sld hx hb hX hbl hbA hS (tz_in (by decide +kernel)) dL_law_842 ?_
  refine tz_i (y := xs 2) (congrArg xs (by decide +kernel)) ?_
  have hPc := hP.sub (ws' := [(mm, .inr (12, (.int 0 :: .ref m_s :: .ref m_spare :: .ref m_kept :: .ref m_undone :: .ref m_triedWay :: .ref m_isKept :: .int 0 :: .ref m_tape :: .int 0 :: .int 0 :: .int 0 :: .int 0 :: .int 0 :: .int 0 :: .int 0 :: .int 0 :: .int 0 :: .ref m_letters :: .int 0 :: .ref m_choice :: .ref m_row :: .ref m_up :: .ref m_low :: .ref m_m :: .ref m_bestUp :: .ref m_bestLow :: .ref m_replyUp :: .ref m_replyLow :: .ref m_worthUp :: .ref m_worthLow :: .ref m_bestWay :: .int 0 :: .ref m_told :: .int 0 :: []))), (m_s, .inl (g 0, 193, .inl (fun _ => 0)))]) [2, 3] rfl
  have hDc := hD.sub (ws' := [(mm, .inr (12, (.int 0 :: .ref m_s :: .ref m_spare :: .ref m_kept :: .ref m_undone :: .ref m_triedWay :: .ref m_isKept :: .int 0 :: .ref m_tape :: .int 0 :: .int 0 :: .int 0 :: .int 0 :: .int 0 :: .int 0 :: .int 0 :: .int 0 :: .int 0 :: .ref m_letters :: .int 0 :: .ref m_choice :: .ref m_row :: .ref m_up :: .ref m_low :: .ref m_m :: .ref m_bestUp :: .ref m_bestLow :: .ref m_replyUp :: .ref m_replyLow :: .ref m_worthUp :: .ref m_worthLow :: .ref m_bestWay :: .int 0 :: .ref m_told :: .int 0 :: []))), (m_s, .inl (g 0, 193, .inl (fun _ => 0)))]) [2, 3] (by decide) rfl
  have hFc := va_free (wc := [(mm, .inr (12, (.int 0 :: .ref m_s :: .ref m_spare :: .ref m_kept :: .ref m_undone :: .ref m_triedWay :: .ref m_isKept :: .int 0 :: .ref m_tape :: .int 0 :: .int 0 :: .int 0 :: .int 0 :: .int 0 :: .int 0 :: .int 0 :: .int 0 :: .int 0 :: .ref m_letters :: .int 0 :: .ref m_choice :: .ref m_row :: .ref m_up :: .ref m_low :: .ref m_m :: .ref m_bestUp :: .ref m_bestLow :: .ref m_replyUp :: .ref m_replyLow :: .ref m_worthUp :: .ref m_worthLow :: .ref m_bestWay :: .int 0 :: .ref m_told :: .int 0 :: []))), (m_s, .inl (g 0, 193, .inl (fun _ => 0)))]) hD hS hA [2, 3] rfl
  refine va_calli (va_runV (As := [.int (xs 1), .int (xs 2)]) (rest := [.int (-1)]) ⟨hx, hb, hml, hown, hts⟩ (c_X12_pay l D g H.size mm (xs 1) (xs 2) 0 m_s m_spare m_kept m_undone m_triedWay m_isKept 0 m_tape 0 0 0 0 0 0 0 0 0 m_letters m_choice m_row m_up m_low m_m m_bestUp m_bestLow m_replyUp m_replyLow m_worthUp m_worthLow m_bestWay 0 m_told 0) (cwV 2 hts (tz_gV qw_703 qw_704 qw_705 qw_253 qw_706) rfl rfl rfl (by decide +kernel) ⟨Nat.le_of_ble_eq_true rfl, Nat.le_of_ble_eq_true rfl⟩) ⟨tz_blQ, va_recv hK hPc (ci := 12) (q0 := 0) rfl rfl, tz_preQ hPc hK hDc⟩ rfl rfl hl.1 rfl (lv_room (Nat.le_of_ble_eq_true rfl)) dL_law_843 ⟨Nat.le_of_ble_eq_true rfl, Nat.le_of_ble_eq_true rfl⟩) hS (fun q _ h => hFc q h) hFc (fun r_696 u t H1 locs ht hvm hw hB hz1 hk1 hS => ?_)
  obtain ⟨hP, hD⟩ := va_join (wr := [(x, .inr (11, [.ref tp, .ref n, .ref dr, .ref x_images, .ref x_kept, .ref rd, .ref st, .ref tl, .ref rg, .ref sv, .ref oc, .ref x_tried, .ref lf, .int 0, .ref x_stoppedWays, .ref x_stoppedWorth, .int 0, .ref x_withinWorth])), (n, .inr (2, [.int 0, .ref n_kind, .ref n_pay, .ref n_name, .ref n_ways, .ref n_held, .ref n_targets, .ref n_weights]))]) (w1 := []) hP hD [2, 3] [0, 1] rfl rfl (by decide) (by decide) hk1 hFc tz_nilP tz_nilD
  generalize H1 = H at hP hS ⊢
  have hP : va_P D vwCl [(x, .inr (11, [.ref tp, .ref n, .ref dr, .ref x_images, .ref x_kept, .ref rd, .ref st, .ref tl, .ref rg, .ref sv, .ref oc, .ref x_tried, .ref lf, .int 0, .ref x_stoppedWays, .ref x_stoppedWorth, .int 0, .ref x_withinWorth])), (n, .inr (2, [.int 0, .ref n_kind, .ref n_pay, .ref n_name, .ref n_ways, .ref n_held, .ref n_targets, .ref n_weights]))] H := hP
  have hD : va_D A [(x, .inr (11, [.ref tp, .ref n, .ref dr, .ref x_images, .ref x_kept, .ref rd, .ref st, .ref tl, .ref rg, .ref sv, .ref oc, .ref x_tried, .ref lf, .int 0, .ref x_stoppedWays, .ref x_stoppedWorth, .int 0, .ref x_withinWorth])), (n, .inr (2, [.int 0, .ref n_kind, .ref n_pay, .ref n_name, .ref n_ways, .ref n_held, .ref n_targets, .ref n_weights]))] := hD
  subst hw
  refine lv_icmp_eq (tgt := 1475) hx hb dL_law_846 (by decide) (fun _ => ?_) (fun h9 => (h9 (by decide)).elim)
  exact law_end C0 hAl hbA H locs ls _ _ (by decide) (by decide) hS (lv_sub hl [0, 4] rfl)
set_option maxHeartbeats 4000000 in
set_option maxRecDepth 100000 in
theorem law_case_17 {p : Program} {l : Launch} {e : Env} {s : State} {m : MethodId} {below : List Frame} {meth : Method} {c : Code} {b : Nat} {xs : Nat → Int32} {A : Nat → Prop} {D : va_G} {g : Nat → ClassId} (x : Nat) (mm : Nat) (oa : Nat) (tp : Nat) (n : Nat) (dr : Nat) (x_images : Nat) (x_kept : Nat) (rd : Nat) (st : Nat) (tl : Nat) (rg : Nat) (sv : Nat) (oc : Nat) (x_tried : Nat) (lf : Nat) (x_stoppedWays : Nat) (x_stoppedWorth : Nat) (x_withinWorth : Nat) (n_kind : Nat) (n_pay : Nat) (n_name : Nat) (n_ways : Nat) (n_held : Nat) (n_targets : Nat) (n_weights : Nat) (m_s : Nat) (m_spare : Nat) (m_kept : Nat) (m_undone : Nat) (m_triedWay : Nat) (m_isKept : Nat) (m_tape : Nat) (m_letters : Nat) (m_choice : Nat) (m_row : Nat) (m_up : Nat) (m_low : Nat) (m_m : Nat) (m_bestUp : Nat) (m_bestLow : Nat) (m_replyUp : Nat) (m_replyLow : Nat) (m_worthUp : Nat) (m_worthLow : Nat) (m_bestWay : Nat) (m_told : Nat) (hst : l.stackTraces = false) (C0 : lw_At p s m meth c b 6 xs) (hA : ∀ q : Nat, s.heap.size ≤ q → A q) (hAl : ∀ q : Nat, A q → s.heap.size ≤ q) (hbA : ¬ A b) (hK : va_K D vwCl (TY g) s) (hZ : ZT A s s.heap) : ∀ (H : Heap) (locs : List Loc) (ls : Array Slot), va_P D vwCl [(x, .inr (11, [.ref tp, .ref n, .ref dr, .ref x_images, .ref x_kept, .ref rd, .ref st, .ref tl, .ref rg, .ref sv, .ref oc, .ref x_tried, .ref lf, .int 0, .ref x_stoppedWays, .ref x_stoppedWorth, .int 0, .ref x_withinWorth])), (n, .inr (2, [.int 0, .ref n_kind, .ref n_pay, .ref n_name, .ref n_ways, .ref n_held, .ref n_targets, .ref n_weights])), (mm, .inr (12, (.int 0 :: .ref m_s :: .ref m_spare :: .ref m_kept :: .ref m_undone :: .ref m_triedWay :: .ref m_isKept :: .int 0 :: .ref m_tape :: .int 0 :: .int 0 :: .int 0 :: .int 0 :: .int 0 :: .int 0 :: .int 0 :: .int 0 :: .int 0 :: .ref m_letters :: .int 0 :: .ref m_choice :: .ref m_row :: .ref m_up :: .ref m_low :: .ref m_m :: .ref m_bestUp :: .ref m_bestLow :: .ref m_replyUp :: .ref m_replyLow :: .ref m_worthUp :: .ref m_worthLow :: .ref m_bestWay :: .int 0 :: .ref m_told :: .int 0 :: []))), (m_s, .inl (g 0, 193, .inl (fun _ => 0)))] H → va_D A [(x, .inr (11, [.ref tp, .ref n, .ref dr, .ref x_images, .ref x_kept, .ref rd, .ref st, .ref tl, .ref rg, .ref sv, .ref oc, .ref x_tried, .ref lf, .int 0, .ref x_stoppedWays, .ref x_stoppedWorth, .int 0, .ref x_withinWorth])), (n, .inr (2, [.int 0, .ref n_kind, .ref n_pay, .ref n_name, .ref n_ways, .ref n_held, .ref n_targets, .ref n_weights])), (mm, .inr (12, (.int 0 :: .ref m_s :: .ref m_spare :: .ref m_kept :: .ref m_undone :: .ref m_triedWay :: .ref m_isKept :: .int 0 :: .ref m_tape :: .int 0 :: .int 0 :: .int 0 :: .int 0 :: .int 0 :: .int 0 :: .int 0 :: .int 0 :: .int 0 :: .ref m_letters :: .int 0 :: .ref m_choice :: .ref m_row :: .ref m_up :: .ref m_low :: .ref m_m :: .ref m_bestUp :: .ref m_bestLow :: .ref m_replyUp :: .ref m_replyLow :: .ref m_worthUp :: .ref m_worthLow :: .ref m_bestWay :: .int 0 :: .ref m_told :: .int 0 :: []))), (m_s, .inl (g 0, 193, .inl (fun _ => 0)))] → va_S A s.heap H locs → lv_has ls 8 [(4, .int 0), (3, .ref oa), (2, .ref mm), (1, .ref x), (0, .ref b)] → W p l e room_1 s m #[Value.ref b] below meth c H locs 114 6056 (lw_Z below #[Value.ref b] s) (F0 m 851 ls []) := by
  obtain ⟨hx, hb, hr, hml, hown, hts0, hX, hbl, hlocks, hgv⟩ := id C0
  have hts : ∀ w ∈ wsL_law, w.before _ s = true := fun w h => hts0 w (wsL_law_in w h)
  intro H locs ls hP hD hS hl
  refine lv_aload_n hx hb dL_law_851 rfl (lv_at hl 3 rfl) ?_
  refine lv_aload_n hx hb dL_law_852 rfl (lv_at hl 4 rfl) ?_
  refine lv_iload hx hb dL_law_853 (lv_at hl 0 rfl) ?_
  refine lv_iconst (v := 1) hx hb dL_law_855 (by decide) ?_
  refine lv_iadd hx hb dL_law_856 ?_
  refine tz_i (y := 1) (by decide +kernel) ?_
  refine va_sld hx hb hX hbl hbA hS (tz_in (by decide +kernel)) dL_law_857 ?_
  refine tz_i (y := xs 1) (congrArg xs (by decide +kernel)) ?_
  refine lv_aload_n hx hb dL_law_858 rfl (lv_at hl 4 rfl) ?_
  refine lv_iload hx hb dL_law_859 (lv_at hl 0 rfl) ?_
  refine lv_iconst (v := 2) hx hb dL_law_861 (by decide) ?_
  refine lv_iadd hx hb dL_law_862 ?_
  refine tz_i (y := 2) (by decide +kernel) ?_
  refine va_sld hx hb hX hbl hbA hS (tz_in (by decide +kernel)) dL_law_863 ?_
  refine tz_i (y := xs 2) (congrArg xs (by decide +kernel)) ?_
  refine lv_aload_n hx hb dL_law_864 rfl (lv_at hl 4 rfl) ?_
  refine lv_iload hx hb dL_law_865 (lv_at hl 0 rfl) ?_
  refine lv_iconst (v := 3) hx hb dL_law_867 (by decide) ?_
  refine lv_iadd hx hb dL_law_868 ?_
  refine tz_i (y := 3) (by decide +kernel) ?_
  refine va_sld hx hb hX hbl hbA hS (tz_in (by decide +kernel)) dL_law_869 ?_
  refine tz_i (y := xs 3) (congrArg xs (by decide +kernel)) ?_
  refine lv_aload_n hx hb dL_law_870 rfl (lv_at hl 1 rfl) ?_
  have hPc := hP.sub (ws' := [(x, .inr (11, [.ref tp, .ref n, .ref dr, .ref x_images, .ref x_kept, .ref rd, .ref st, .ref tl, .ref rg, .ref sv, .ref oc, .ref x_tried, .ref lf, .int 0, .ref x_stoppedWays, .ref x_stoppedWorth, .int 0, .ref x_withinWorth])), (n, .inr (2, [.int 0, .ref n_kind, .ref n_pay, .ref n_name, .ref n_ways, .ref n_held, .ref n_targets, .ref n_weights]))]) [0, 1] rfl
  have hDc := hD.sub (ws' := [(x, .inr (11, [.ref tp, .ref n, .ref dr, .ref x_images, .ref x_kept, .ref rd, .ref st, .ref tl, .ref rg, .ref sv, .ref oc, .ref x_tried, .ref lf, .int 0, .ref x_stoppedWays, .ref x_stoppedWorth, .int 0, .ref x_withinWorth])), (n, .inr (2, [.int 0, .ref n_kind, .ref n_pay, .ref n_name, .ref n_ways, .ref n_held, .ref n_targets, .ref n_weights]))]) [0, 1] (by decide) rfl
  have hFc := va_free (wc := [(x, .inr (11, [.ref tp, .ref n, .ref dr, .ref x_images, .ref x_kept, .ref rd, .ref st, .ref tl, .ref rg, .ref sv, .ref oc, .ref x_tried, .ref lf, .int 0, .ref x_stoppedWays, .ref x_stoppedWorth, .int 0, .ref x_withinWorth])), (n, .inr (2, [.int 0, .ref n_kind, .ref n_pay, .ref n_name, .ref n_ways, .ref n_held, .ref n_targets, .ref n_weights]))]) hD hS hA [0, 1] rfl
  refine vx_calli (vx_runSX (As := [.ref x, .int (xs 1), .int (xs 2), .int (xs 3), .ref oa]) (rest := []) ⟨hx, hb, hml, hown, hts⟩ (c_L_stopped l hst D g H.size x (xs 1) (xs 2) (xs 3) oa tp n dr x_images x_kept rd st tl rg sv oc x_tried lf x_stoppedWays x_stoppedWorth x_withinWorth n_kind n_pay n_name n_ways n_held n_targets n_weights) (vx_cwSW 5 hts (tz_gS qw_707 qw_708 qw_607 qw_709) rfl rfl rfl (by decide +kernel) ⟨Nat.le_of_ble_eq_true rfl, Nat.le_of_ble_eq_true rfl⟩) ⟨tz_blX, tz_preX hPc hK hDc (hZ.kept hS hFc)⟩ rfl rfl hl.1 rfl (lv_room (Nat.le_of_ble_eq_true rfl)) dL_law_871 ⟨Nat.le_of_ble_eq_true rfl, Nat.le_of_ble_eq_true rfl⟩) hS (fun q _ h => hFc q h) hFc (fun q _ h => hFc q h) (fun E ce q9 u t H1 locs1 ht hvm hpx hBX hz1 hk1 hS hce hcv hcl => hpx.elim) (fun r_700 u t H1 locs ht hvm hw hB hz1 hk1 hS => ?_)
  obtain ⟨hP, hD⟩ := va_join (wr := [(mm, .inr (12, (.int 0 :: .ref m_s :: .ref m_spare :: .ref m_kept :: .ref m_undone :: .ref m_triedWay :: .ref m_isKept :: .int 0 :: .ref m_tape :: .int 0 :: .int 0 :: .int 0 :: .int 0 :: .int 0 :: .int 0 :: .int 0 :: .int 0 :: .int 0 :: .ref m_letters :: .int 0 :: .ref m_choice :: .ref m_row :: .ref m_up :: .ref m_low :: .ref m_m :: .ref m_bestUp :: .ref m_bestLow :: .ref m_replyUp :: .ref m_replyLow :: .ref m_worthUp :: .ref m_worthLow :: .ref m_bestWay :: .int 0 :: .ref m_told :: .int 0 :: []))), (m_s, .inl (g 0, 193, .inl (fun _ => 0)))]) (w1 := []) hP hD [0, 1] [2, 3] rfl rfl (by decide) (by decide) hk1 hFc tz_nilP tz_nilD
  generalize H1 = H at hP hS ⊢
  have hP : va_P D vwCl [(mm, .inr (12, (.int 0 :: .ref m_s :: .ref m_spare :: .ref m_kept :: .ref m_undone :: .ref m_triedWay :: .ref m_isKept :: .int 0 :: .ref m_tape :: .int 0 :: .int 0 :: .int 0 :: .int 0 :: .int 0 :: .int 0 :: .int 0 :: .int 0 :: .int 0 :: .ref m_letters :: .int 0 :: .ref m_choice :: .ref m_row :: .ref m_up :: .ref m_low :: .ref m_m :: .ref m_bestUp :: .ref m_bestLow :: .ref m_replyUp :: .ref m_replyLow :: .ref m_worthUp :: .ref m_worthLow :: .ref m_bestWay :: .int 0 :: .ref m_told :: .int 0 :: []))), (m_s, .inl (g 0, 193, .inl (fun _ => 0)))] H := hP
  have hD : va_D A [(mm, .inr (12, (.int 0 :: .ref m_s :: .ref m_spare :: .ref m_kept :: .ref m_undone :: .ref m_triedWay :: .ref m_isKept :: .int 0 :: .ref m_tape :: .int 0 :: .int 0 :: .int 0 :: .int 0 :: .int 0 :: .int 0 :: .int 0 :: .int 0 :: .int 0 :: .ref m_letters :: .int 0 :: .ref m_choice :: .ref m_row :: .ref m_up :: .ref m_low :: .ref m_m :: .ref m_bestUp :: .ref m_bestLow :: .ref m_replyUp :: .ref m_replyLow :: .ref m_worthUp :: .ref m_worthLow :: .ref m_bestWay :: .int 0 :: .ref m_told :: .int 0 :: []))), (m_s, .inl (g 0, 193, .inl (fun _ => 0)))] := hD
  subst hw
  refine W.widen (k := 115) (n := 6062) (by decide) (by decide) ?_
  refine lv_istore (lv' := [(5, .int 1), (4, .int 0), (3, .ref oa), (2, .ref mm), (1, .ref x), (0, .ref b)]) hx hb dL_law_874 hl (by decide) rfl (fun ls hl => ?_)
  refine lv_aload_n hx hb dL_law_876 rfl (lv_at hl 3 rfl) ?_
  refine lv_aload_n hx hb dL_law_877 rfl (lv_at hl 5 rfl) ?_
  refine lv_iload hx hb dL_law_878 (lv_at hl 1 rfl) ?_
  refine lv_iconst (v := 1) hx hb dL_law_880 (by decide) ?_
  refine lv_iadd hx hb dL_law_881 ?_
  refine tz_i (y := 1) (by decide +kernel) ?_
  refine va_sld hx hb hX hbl hbA hS (tz_in (by decide +kernel)) dL_law_882 ?_
  refine tz_i (y := xs 1) (congrArg xs (by decide +kernel)) ?_
  refine lv_aload_n hx hb dL_law_883 rfl (lv_at hl 5 rfl) ?_
  refine lv_iload hx hb dL_law_884 (lv_at hl 1 rfl) ?_
  refine lv_iconst (v := 2) hx hb dL_law_886 (by decide) ?_
  refine lv_iadd hx hb dL_law_887 ?_
  refine tz_i (y := 2) (by decide +kernel) ?_
  refine va_sld hx hb hX hbl hbA hS (tz_in (by decide +kernel)) dL_law_888 ?_
  refine tz_i (y := xs 2) (congrArg xs (by decide +kernel)) ?_
  refine lv_aload_n hx hb dL_law_889 rfl (lv_at hl 5 rfl) ?_
  refine lv_iload hx hb dL_law_890 (lv_at hl 1 rfl) ?_
  refine lv_iconst (v := 3) hx hb dL_law_892 (by decide) ?_
  refine lv_iadd hx hb dL_law_893 ?_
  refine tz_i (y := 3) (by decide +kernel) ?_
  refine va_sld hx hb hX hbl hbA hS (tz_in (by decide +kernel)) dL_law_894 ?_
  refine tz_i (y := xs 3) (congrArg xs (by decide +kernel)) ?_
  have hPc := hP.sub (ws' := [(mm, .inr (12, (.int 0 :: .ref m_s :: .ref m_spare :: .ref m_kept :: .ref m_undone :: .ref m_triedWay :: .ref m_isKept :: .int 0 :: .ref m_tape :: .int 0 :: .int 0 :: .int 0 :: .int 0 :: .int 0 :: .int 0 :: .int 0 :: .int 0 :: .int 0 :: .ref m_letters :: .int 0 :: .ref m_choice :: .ref m_row :: .ref m_up :: .ref m_low :: .ref m_m :: .ref m_bestUp :: .ref m_bestLow :: .ref m_replyUp :: .ref m_replyLow :: .ref m_worthUp :: .ref m_worthLow :: .ref m_bestWay :: .int 0 :: .ref m_told :: .int 0 :: []))), (m_s, .inl (g 0, 193, .inl (fun _ => 0)))]) [0, 1] rfl
  have hDc := hD.sub (ws' := [(mm, .inr (12, (.int 0 :: .ref m_s :: .ref m_spare :: .ref m_kept :: .ref m_undone :: .ref m_triedWay :: .ref m_isKept :: .int 0 :: .ref m_tape :: .int 0 :: .int 0 :: .int 0 :: .int 0 :: .int 0 :: .int 0 :: .int 0 :: .int 0 :: .int 0 :: .ref m_letters :: .int 0 :: .ref m_choice :: .ref m_row :: .ref m_up :: .ref m_low :: .ref m_m :: .ref m_bestUp :: .ref m_bestLow :: .ref m_replyUp :: .ref m_replyLow :: .ref m_worthUp :: .ref m_worthLow :: .ref m_bestWay :: .int 0 :: .ref m_told :: .int 0 :: []))), (m_s, .inl (g 0, 193, .inl (fun _ => 0)))]) [0, 1] (by decide) rfl
  have hFc := va_free (wc := [(mm, .inr (12, (.int 0 :: .ref m_s :: .ref m_spare :: .ref m_kept :: .ref m_undone :: .ref m_triedWay :: .ref m_isKept :: .int 0 :: .ref m_tape :: .int 0 :: .int 0 :: .int 0 :: .int 0 :: .int 0 :: .int 0 :: .int 0 :: .int 0 :: .int 0 :: .ref m_letters :: .int 0 :: .ref m_choice :: .ref m_row :: .ref m_up :: .ref m_low :: .ref m_m :: .ref m_bestUp :: .ref m_bestLow :: .ref m_replyUp :: .ref m_replyLow :: .ref m_worthUp :: .ref m_worthLow :: .ref m_bestWay :: .int 0 :: .ref m_told :: .int 0 :: []))), (m_s, .inl (g 0, 193, .inl (fun _ => 0)))]) hD hS hA [0, 1] rfl
  refine va_calll (va_runV (As := [.int (xs 1), .int (xs 2), .int (xs 3)]) (rest := []) ⟨hx, hb, hml, hown, hts⟩ (c_X12_stopped l D g H.size mm (xs 1) (xs 2) (xs 3) 0 m_s m_spare m_kept m_undone m_triedWay m_isKept 0 m_tape 0 0 0 0 0 0 0 0 0 m_letters m_choice m_row m_up m_low m_m m_bestUp m_bestLow m_replyUp m_replyLow m_worthUp m_worthLow m_bestWay 0 m_told 0) (cwV 3 hts (tz_gV qw_710 qw_711 qw_712 qw_253 qw_713) rfl rfl rfl (by decide +kernel) ⟨Nat.le_of_ble_eq_true rfl, Nat.le_of_ble_eq_true rfl⟩) ⟨tz_blQ, va_recv hK hPc (ci := 12) (q0 := 0) rfl rfl, tz_preQ hPc hK hDc⟩ rfl rfl hl.1 rfl (lv_room (Nat.le_of_ble_eq_true rfl)) dL_law_895 ⟨Nat.le_of_ble_eq_true rfl, Nat.le_of_ble_eq_true rfl⟩) hS (fun q _ h => hFc q h) hFc (fun r_701 u t H1 locs ht hvm hw hB hz1 hk1 hS => ?_)
  obtain ⟨hP1, hD1⟩ := hB
  rw [ht] at hP1
  obtain ⟨hP, hD⟩ := va_join (wr := []) (w1 := [(mm, .inr (12, (.int 1 :: .ref m_s :: .ref m_spare :: .ref m_kept :: .ref m_undone :: .ref m_triedWay :: .ref m_isKept :: .int 0 :: .ref m_tape :: .int 0 :: .int 0 :: .int 0 :: .int 0 :: .int 0 :: .int 0 :: .int 0 :: .int 0 :: .int 0 :: .ref m_letters :: .int 0 :: .ref m_choice :: .ref m_row :: .ref m_up :: .ref m_low :: .ref m_m :: .ref m_bestUp :: .ref m_bestLow :: .ref m_replyUp :: .ref m_replyLow :: .ref m_worthUp :: .ref m_worthLow :: .ref m_bestWay :: .int 0 :: .ref m_told :: .int 0 :: []))), (m_s, .inl (g 0, 193, .inl (fun _ => 0)))]) hP hD [0, 1] [] rfl rfl (by decide) (by decide) hk1 hFc hP1 hD1
  generalize H1 = H at hP hS ⊢
  have hP : va_P D vwCl [(mm, .inr (12, (.int 1 :: .ref m_s :: .ref m_spare :: .ref m_kept :: .ref m_undone :: .ref m_triedWay :: .ref m_isKept :: .int 0 :: .ref m_tape :: .int 0 :: .int 0 :: .int 0 :: .int 0 :: .int 0 :: .int 0 :: .int 0 :: .int 0 :: .int 0 :: .ref m_letters :: .int 0 :: .ref m_choice :: .ref m_row :: .ref m_up :: .ref m_low :: .ref m_m :: .ref m_bestUp :: .ref m_bestLow :: .ref m_replyUp :: .ref m_replyLow :: .ref m_worthUp :: .ref m_worthLow :: .ref m_bestWay :: .int 0 :: .ref m_told :: .int 0 :: []))), (m_s, .inl (g 0, 193, .inl (fun _ => 0)))] H := hP
  have hD : va_D A [(mm, .inr (12, (.int 1 :: .ref m_s :: .ref m_spare :: .ref m_kept :: .ref m_undone :: .ref m_triedWay :: .ref m_isKept :: .int 0 :: .ref m_tape :: .int 0 :: .int 0 :: .int 0 :: .int 0 :: .int 0 :: .int 0 :: .int 0 :: .int 0 :: .int 0 :: .ref m_letters :: .int 0 :: .ref m_choice :: .ref m_row :: .ref m_up :: .ref m_low :: .ref m_m :: .ref m_bestUp :: .ref m_bestLow :: .ref m_replyUp :: .ref m_replyLow :: .ref m_worthUp :: .ref m_worthLow :: .ref m_bestWay :: .int 0 :: .ref m_told :: .int 0 :: []))), (m_s, .inl (g 0, 193, .inl (fun _ => 0)))] := hD
  subst hw
  refine lv_lstore (lv' := [(6, .long 0), (5, .int 1), (4, .int 0), (3, .ref oa), (2, .ref mm), (1, .ref x), (0, .ref b)]) hx hb dL_law_898 hl (by decide) rfl (fun ls hl => ?_)
  refine lv_aload_n hx hb dL_law_900 rfl (lv_at hl 4 rfl) ?_
  have hPc := hP.sub (ws' := [(mm, .inr (12, (.int 1 :: .ref m_s :: .ref m_spare :: .ref m_kept :: .ref m_undone :: .ref m_triedWay :: .ref m_isKept :: .int 0 :: .ref m_tape :: .int 0 :: .int 0 :: .int 0 :: .int 0 :: .int 0 :: .int 0 :: .int 0 :: .int 0 :: .int 0 :: .ref m_letters :: .int 0 :: .ref m_choice :: .ref m_row :: .ref m_up :: .ref m_low :: .ref m_m :: .ref m_bestUp :: .ref m_bestLow :: .ref m_replyUp :: .ref m_replyLow :: .ref m_worthUp :: .ref m_worthLow :: .ref m_bestWay :: .int 0 :: .ref m_told :: .int 0 :: [])))]) [0] rfl
  refine vp_callSi (va_Run.run (va_runV (As := []) (rest := []) ⟨hx, hb, hml, hown, hts⟩ (c_X12_thrown l D g mm m_s m_spare m_kept m_undone m_triedWay m_isKept 0 m_tape 0 0 0 0 0 0 0 0 0 m_letters 0 m_choice m_row m_up m_low m_m m_bestUp m_bestLow m_replyUp m_replyLow m_worthUp m_worthLow m_bestWay 0 m_told 0) (cwV 0 hts (tz_gV qw_613 qw_614 qw_615 qw_253 qw_616) rfl rfl rfl (by decide +kernel) ⟨Nat.le_of_ble_eq_true rfl, Nat.le_of_ble_eq_true rfl⟩) ⟨tz_blS, va_recv hK hPc (ci := 12) (q0 := 0) rfl rfl, tz_preS hPc hK⟩ rfl rfl hl.1 rfl (lv_room (Nat.le_of_ble_eq_true rfl)) dL_law_901 ⟨Nat.le_of_ble_eq_true rfl, Nat.le_of_ble_eq_true rfl⟩)) (fun r_702 hw => ?_)
  subst hw
  refine lv_iload hx hb dL_law_904 (lv_at hl 1 rfl) ?_
  refine lv_icmp_eq (tgt := 911) hx hb dL_law_906 (by decide) (fun _ => ?_) (fun h9 => (h9 (by decide)).elim)
  refine lv_iload hx hb dL_law_911 (lv_at hl 1 rfl) ?_
  refine lv_if_ne (tgt := 927) hx hb dL_law_913 (by decide) (fun _ => ?_) (fun h9 => absurd h9 (by decide))
  refine lv_goto (tgt := 1475) hx hb dL_law_927 (by decide) ?_
  exact law_end C0 hAl hbA H locs ls _ _ (by decide) (by decide) hS (lv_sub hl [2, 6] rfl)
set_option maxHeartbeats 4000000 in
set_option maxRecDepth 100000 in
theorem law_case_18 {p : Program} {l : Launch} {e : Env} {s : State} {m : MethodId} {below : List Frame} {meth : Method} {c : Code} {b : Nat} {xs : Nat → Int32} {A : Nat → Prop} {D : va_G} {g : Nat → ClassId} (x : Nat) (mm : Nat) (oa : Nat) (tp : Nat) (n : Nat) (dr : Nat) (x_images : Nat) (x_kept : Nat) (rd : Nat) (st : Nat) (tl : Nat) (rg : Nat) (sv : Nat) (oc : Nat) (x_tried : Nat) (lf : Nat) (x_stoppedWays : Nat) (x_stoppedWorth : Nat) (x_withinWorth : Nat) (n_kind : Nat) (n_pay : Nat) (n_name : Nat) (n_ways : Nat) (n_held : Nat) (n_targets : Nat) (n_weights : Nat) (m_s : Nat) (m_spare : Nat) (m_kept : Nat) (m_undone : Nat) (m_triedWay : Nat) (m_isKept : Nat) (m_tape : Nat) (m_letters : Nat) (m_choice : Nat) (m_row : Nat) (m_up : Nat) (m_low : Nat) (m_m : Nat) (m_bestUp : Nat) (m_bestLow : Nat) (m_replyUp : Nat) (m_replyLow : Nat) (m_worthUp : Nat) (m_worthLow : Nat) (m_bestWay : Nat) (m_told : Nat) (hst : l.stackTraces = false) (C0 : lw_At p s m meth c b 6 xs) (hA : ∀ q : Nat, s.heap.size ≤ q → A q) (hAl : ∀ q : Nat, A q → s.heap.size ≤ q) (hbA : ¬ A b) (hK : va_K D vwCl (TY g) s) (hZ : ZT A s s.heap) : ∀ (H : Heap) (locs : List Loc) (ls : Array Slot), va_P D vwCl [(x, .inr (11, [.ref tp, .ref n, .ref dr, .ref x_images, .ref x_kept, .ref rd, .ref st, .ref tl, .ref rg, .ref sv, .ref oc, .ref x_tried, .ref lf, .int 0, .ref x_stoppedWays, .ref x_stoppedWorth, .int 0, .ref x_withinWorth])), (n, .inr (2, [.int 0, .ref n_kind, .ref n_pay, .ref n_name, .ref n_ways, .ref n_held, .ref n_targets, .ref n_weights])), (mm, .inr (12, (.int 0 :: .ref m_s :: .ref m_spare :: .ref m_kept :: .ref m_undone :: .ref m_triedWay :: .ref m_isKept :: .int 0 :: .ref m_tape :: .int 0 :: .int 0 :: .int 0 :: .int 0 :: .int 0 :: .int 0 :: .int 0 :: .int 0 :: .int 0 :: .ref m_letters :: .int 0 :: .ref m_choice :: .ref m_row :: .ref m_up :: .ref m_low :: .ref m_m :: .ref m_bestUp :: .ref m_bestLow :: .ref m_replyUp :: .ref m_replyLow :: .ref m_worthUp :: .ref m_worthLow :: .ref m_bestWay :: .int 0 :: .ref m_told :: .int 0 :: []))), (m_s, .inl (g 0, 193, .inl (fun _ => 0)))] H → va_D A [(x, .inr (11, [.ref tp, .ref n, .ref dr, .ref x_images, .ref x_kept, .ref rd, .ref st, .ref tl, .ref rg, .ref sv, .ref oc, .ref x_tried, .ref lf, .int 0, .ref x_stoppedWays, .ref x_stoppedWorth, .int 0, .ref x_withinWorth])), (n, .inr (2, [.int 0, .ref n_kind, .ref n_pay, .ref n_name, .ref n_ways, .ref n_held, .ref n_targets, .ref n_weights])), (mm, .inr (12, (.int 0 :: .ref m_s :: .ref m_spare :: .ref m_kept :: .ref m_undone :: .ref m_triedWay :: .ref m_isKept :: .int 0 :: .ref m_tape :: .int 0 :: .int 0 :: .int 0 :: .int 0 :: .int 0 :: .int 0 :: .int 0 :: .int 0 :: .int 0 :: .ref m_letters :: .int 0 :: .ref m_choice :: .ref m_row :: .ref m_up :: .ref m_low :: .ref m_m :: .ref m_bestUp :: .ref m_bestLow :: .ref m_replyUp :: .ref m_replyLow :: .ref m_worthUp :: .ref m_worthLow :: .ref m_bestWay :: .int 0 :: .ref m_told :: .int 0 :: []))), (m_s, .inl (g 0, 193, .inl (fun _ => 0)))] → va_S A s.heap H locs → lv_has ls 8 [(4, .int 0), (3, .ref oa), (2, .ref mm), (1, .ref x), (0, .ref b)] → W p l e room_1 s m #[Value.ref b] below meth c H locs 114 6056 (lw_Z below #[Value.ref b] s) (F0 m 930 ls []) := by
  obtain ⟨hx, hb, hr, hml, hown, hts0, hX, hbl, hlocks, hgv⟩ := id C0
  have hts : ∀ w ∈ wsL_law, w.before _ s = true := fun w h => hts0 w (wsL_law_in w h)
  intro H locs ls hP hD hS hl
  refine lv_aload_n hx hb dL_law_930 rfl (lv_at hl 3 rfl) ?_
  refine lv_aload_n hx hb dL_law_931 rfl (lv_at hl 4 rfl) ?_
  refine lv_iload hx hb dL_law_932 (lv_at hl 0 rfl) ?_
  refine lv_iconst (v := 1) hx hb dL_law_934 (by decide) ?_
  refine lv_iadd hx hb dL_law_935 ?_
  refine tz_i (y := 1) (by decide +kernel) ?_
  refine va_sld hx hb hX hbl hbA hS (tz_in (by decide +kernel)) dL_law_936 ?_
  refine tz_i (y := xs 1) (congrArg xs (by decide +kernel)) ?_
  refine lv_aload_n hx hb dL_law_937 rfl (lv_at hl 4 rfl) ?_
  refine lv_iload hx hb dL_law_938 (lv_at hl 0 rfl) ?_
  refine lv_iconst (v := 2) hx hb dL_law_940 (by decide) ?_
  refine lv_iadd hx hb dL_law_941 ?_
  refine tz_i (y := 2) (by decide +kernel) ?_
  refine va_sld hx hb hX hbl hbA hS (tz_in (by decide +kernel)) dL_law_942 ?_
  refine tz_i (y := xs 2) (congrArg xs (by decide +kernel)) ?_
  refine lv_aload_n hx hb dL_law_943 rfl (lv_at hl 4 rfl) ?_
  refine lv_iload hx hb dL_law_944 (lv_at hl 0 rfl) ?_
  refine lv_iconst (v := 3) hx hb dL_law_946 (by decide) ?_
  refine lv_iadd hx hb dL_law_947 ?_
  refine tz_i (y := 3) (by decide +kernel) ?_
  refine va_sld hx hb hX hbl hbA hS (tz_in (by decide +kernel)) dL_law_948 ?_
  refine tz_i (y := xs 3) (congrArg xs (by decide +kernel)) ?_
  refine lv_aload_n hx hb dL_law_949 rfl (lv_at hl 1 rfl) ?_
  have hPc := hP.sub (ws' := [(x, .inr (11, [.ref tp, .ref n, .ref dr, .ref x_images, .ref x_kept, .ref rd, .ref st, .ref tl, .ref rg, .ref sv, .ref oc, .ref x_tried, .ref lf, .int 0, .ref x_stoppedWays, .ref x_stoppedWorth, .int 0, .ref x_withinWorth])), (n, .inr (2, [.int 0, .ref n_kind, .ref n_pay, .ref n_name, .ref n_ways, .ref n_held, .ref n_targets, .ref n_weights]))]) [0, 1] rfl
  have hDc := hD.sub (ws' := [(x, .inr (11, [.ref tp, .ref n, .ref dr, .ref x_images, .ref x_kept, .ref rd, .ref st, .ref tl, .ref rg, .ref sv, .ref oc, .ref x_tried, .ref lf, .int 0, .ref x_stoppedWays, .ref x_stoppedWorth, .int 0, .ref x_withinWorth])), (n, .inr (2, [.int 0, .ref n_kind, .ref n_pay, .ref n_name, .ref n_ways, .ref n_held, .ref n_targets, .ref n_weights]))]) [0, 1] (by decide) rfl
  have hFc := va_free (wc := [(x, .inr (11, [.ref tp, .ref n, .ref dr, .ref x_images, .ref x_kept, .ref rd, .ref st, .ref tl, .ref rg, .ref sv, .ref oc, .ref x_tried, .ref lf, .int 0, .ref x_stoppedWays, .ref x_stoppedWorth, .int 0, .ref x_withinWorth])), (n, .inr (2, [.int 0, .ref n_kind, .ref n_pay, .ref n_name, .ref n_ways, .ref n_held, .ref n_targets, .ref n_weights]))]) hD hS hA [0, 1] rfl
  refine vx_calli (vx_runSX (As := [.ref x, .int (xs 1), .int (xs 2), .int (xs 3), .ref oa]) (rest := []) ⟨hx, hb, hml, hown, hts⟩ (c_L_within l hst D g H.size x (xs 1) (xs 2) (xs 3) oa tp n dr x_images x_kept rd st tl rg sv oc x_tried lf x_stoppedWays x_stoppedWorth x_withinWorth n_kind n_pay n_name n_ways n_held n_targets n_weights) (vx_cwSW 5 hts (tz_gS qw_714 qw_715 qw_607 qw_716) rfl rfl rfl (by decide +kernel) ⟨Nat.le_of_ble_eq_true rfl, Nat.le_of_ble_eq_true rfl⟩) ⟨tz_blX, tz_preX hPc hK hDc (hZ.kept hS hFc)⟩ rfl rfl hl.1 rfl (lv_room (Nat.le_of_ble_eq_true rfl)) dL_law_950 ⟨Nat.le_of_ble_eq_true rfl, Nat.le_of_ble_eq_true rfl⟩) hS (fun q _ h => hFc q h) hFc (fun q _ h => hFc q h) (fun E ce q9 u t H1 locs1 ht hvm hpx hBX hz1 hk1 hS hce hcv hcl => hpx.elim) (fun r_706 u t H1 locs ht hvm hw hB hz1 hk1 hS => ?_)
  obtain ⟨hP, hD⟩ := va_join (wr := [(mm, .inr (12, (.int 0 :: .ref m_s :: .ref m_spare :: .ref m_kept :: .ref m_undone :: .ref m_triedWay :: .ref m_isKept :: .int 0 :: .ref m_tape :: .int 0 :: .int 0 :: .int 0 :: .int 0 :: .int 0 :: .int 0 :: .int 0 :: .int 0 :: .int 0 :: .ref m_letters :: .int 0 :: .ref m_choice :: .ref m_row :: .ref m_up :: .ref m_low :: .ref m_m :: .ref m_bestUp :: .ref m_bestLow :: .ref m_replyUp :: .ref m_replyLow :: .ref m_worthUp :: .ref m_worthLow :: .ref m_bestWay :: .int 0 :: .ref m_told :: .int 0 :: []))), (m_s, .inl (g 0, 193, .inl (fun _ => 0)))]) (w1 := []) hP hD [0, 1] [2, 3] rfl rfl (by decide) (by decide) hk1 hFc tz_nilP tz_nilD
  generalize H1 = H at hP hS ⊢
  have hP : va_P D vwCl [(mm, .inr (12, (.int 0 :: .ref m_s :: .ref m_spare :: .ref m_kept :: .ref m_undone :: .ref m_triedWay :: .ref m_isKept :: .int 0 :: .ref m_tape :: .int 0 :: .int 0 :: .int 0 :: .int 0 :: .int 0 :: .int 0 :: .int 0 :: .int 0 :: .int 0 :: .ref m_letters :: .int 0 :: .ref m_choice :: .ref m_row :: .ref m_up :: .ref m_low :: .ref m_m :: .ref m_bestUp :: .ref m_bestLow :: .ref m_replyUp :: .ref m_replyLow :: .ref m_worthUp :: .ref m_worthLow :: .ref m_bestWay :: .int 0 :: .ref m_told :: .int 0 :: []))), (m_s, .inl (g 0, 193, .inl (fun _ => 0)))] H := hP
  have hD : va_D A [(mm, .inr (12, (.int 0 :: .ref m_s :: .ref m_spare :: .ref m_kept :: .ref m_undone :: .ref m_triedWay :: .ref m_isKept :: .int 0 :: .ref m_tape :: .int 0 :: .int 0 :: .int 0 :: .int 0 :: .int 0 :: .int 0 :: .int 0 :: .int 0 :: .int 0 :: .ref m_letters :: .int 0 :: .ref m_choice :: .ref m_row :: .ref m_up :: .ref m_low :: .ref m_m :: .ref m_bestUp :: .ref m_bestLow :: .ref m_replyUp :: .ref m_replyLow :: .ref m_worthUp :: .ref m_worthLow :: .ref m_bestWay :: .int 0 :: .ref m_told :: .int 0 :: []))), (m_s, .inl (g 0, 193, .inl (fun _ => 0)))] := hD
  subst hw
  refine W.widen (k := 115) (n := 6062) (by decide) (by decide) ?_
  refine lv_istore (lv' := [(5, .int 1), (4, .int 0), (3, .ref oa), (2, .ref mm), (1, .ref x), (0, .ref b)]) hx hb dL_law_953 hl (by decide) rfl (fun ls hl => ?_)
  refine lv_aload_n hx hb dL_law_955 rfl (lv_at hl 3 rfl) ?_
  refine lv_aload_n hx hb dL_law_956 rfl (lv_at hl 5 rfl) ?_
  refine lv_iload hx hb dL_law_957 (lv_at hl 1 rfl) ?_
  refine lv_iconst (v := 1) hx hb dL_law_959 (by decide) ?_
  refine lv_iadd hx hb dL_law_960 ?_
  refine tz_i (y := 1) (by decide +kernel) ?_
  refine va_sld hx hb hX hbl hbA hS (tz_in (by decide +kernel)) dL_law_961 ?_
  refine tz_i (y := xs 1) (congrArg xs (by decide +kernel)) ?_
  refine lv_aload_n hx hb dL_law_962 rfl (lv_at hl 5 rfl) ?_
  refine lv_iload hx hb dL_law_963 (lv_at hl 1 rfl) ?_
  refine lv_iconst (v := 2) hx hb dL_law_965 (by decide) ?_
  refine lv_iadd hx hb dL_law_966 ?_
  refine tz_i (y := 2) (by decide +kernel) ?_
  refine va_sld hx hb hX hbl hbA hS (tz_in (by decide +kernel)) dL_law_967 ?_
  refine tz_i (y := xs 2) (congrArg xs (by decide +kernel)) ?_
  refine lv_aload_n hx hb dL_law_968 rfl (lv_at hl 5 rfl) ?_
  refine lv_iload hx hb dL_law_969 (lv_at hl 1 rfl) ?_
  refine lv_iconst (v := 3) hx hb dL_law_971 (by decide) ?_
  refine lv_iadd hx hb dL_law_972 ?_
  refine tz_i (y := 3) (by decide +kernel) ?_
  refine va_sld hx hb hX hbl hbA hS (tz_in (by decide +kernel)) dL_law_973 ?_
  refine tz_i (y := xs 3) (congrArg xs (by decide +kernel)) ?_
  have hPc := hP.sub (ws' := [(mm, .inr (12, (.int 0 :: .ref m_s :: .ref m_spare :: .ref m_kept :: .ref m_undone :: .ref m_triedWay :: .ref m_isKept :: .int 0 :: .ref m_tape :: .int 0 :: .int 0 :: .int 0 :: .int 0 :: .int 0 :: .int 0 :: .int 0 :: .int 0 :: .int 0 :: .ref m_letters :: .int 0 :: .ref m_choice :: .ref m_row :: .ref m_up :: .ref m_low :: .ref m_m :: .ref m_bestUp :: .ref m_bestLow :: .ref m_replyUp :: .ref m_replyLow :: .ref m_worthUp :: .ref m_worthLow :: .ref m_bestWay :: .int 0 :: .ref m_told :: .int 0 :: []))), (m_s, .inl (g 0, 193, .inl (fun _ => 0)))]) [0, 1] rfl
  have hDc := hD.sub (ws' := [(mm, .inr (12, (.int 0 :: .ref m_s :: .ref m_spare :: .ref m_kept :: .ref m_undone :: .ref m_triedWay :: .ref m_isKept :: .int 0 :: .ref m_tape :: .int 0 :: .int 0 :: .int 0 :: .int 0 :: .int 0 :: .int 0 :: .int 0 :: .int 0 :: .int 0 :: .ref m_letters :: .int 0 :: .ref m_choice :: .ref m_row :: .ref m_up :: .ref m_low :: .ref m_m :: .ref m_bestUp :: .ref m_bestLow :: .ref m_replyUp :: .ref m_replyLow :: .ref m_worthUp :: .ref m_worthLow :: .ref m_bestWay :: .int 0 :: .ref m_told :: .int 0 :: []))), (m_s, .inl (g 0, 193, .inl (fun _ => 0)))]) [0, 1] (by decide) rfl
  have hFc := va_free (wc := [(mm, .inr (12, (.int 0 :: .ref m_s :: .ref m_spare :: .ref m_kept :: .ref m_undone :: .ref m_triedWay :: .ref m_isKept :: .int 0 :: .ref m_tape :: .int 0 :: .int 0 :: .int 0 :: .int 0 :: .int 0 :: .int 0 :: .int 0 :: .int 0 :: .int 0 :: .ref m_letters :: .int 0 :: .ref m_choice :: .ref m_row :: .ref m_up :: .ref m_low :: .ref m_m :: .ref m_bestUp :: .ref m_bestLow :: .ref m_replyUp :: .ref m_replyLow :: .ref m_worthUp :: .ref m_worthLow :: .ref m_bestWay :: .int 0 :: .ref m_told :: .int 0 :: []))), (m_s, .inl (g 0, 193, .inl (fun _ => 0)))]) hD hS hA [0, 1] rfl
  refine va_calll (va_runV (As := [.int (xs 1), .int (xs 2), .int (xs 3)]) (rest := []) ⟨hx, hb, hml, hown, hts⟩ (c_X12_within l D g H.size mm (xs 1) (xs 2) (xs 3) 0 m_s m_spare m_kept m_undone m_triedWay m_isKept 0 m_tape 0 0 0 0 0 0 0 0 0 m_letters m_choice m_row m_up m_low m_m m_bestUp m_bestLow m_replyUp m_replyLow m_worthUp m_worthLow m_bestWay 0 m_told 0) (cwV 3 hts (tz_gV qw_717 qw_718 qw_719 qw_253 qw_720) rfl rfl rfl (by decide +kernel) ⟨Nat.le_of_ble_eq_true rfl, Nat.le_of_ble_eq_true rfl⟩) ⟨tz_blQ, va_recv hK hPc (ci := 12) (q0 := 0) rfl rfl, tz_preQ hPc hK hDc⟩ rfl rfl hl.1 rfl (lv_room (Nat.le_of_ble_eq_true rfl)) dL_law_974 ⟨Nat.le_of_ble_eq_true rfl, Nat.le_of_ble_eq_true rfl⟩) hS (fun q _ h => hFc q h) hFc (fun r_707 u t H1 locs ht hvm hw hB hz1 hk1 hS => ?_)
  obtain ⟨hP1, hD1⟩ := hB
  rw [ht] at hP1
  obtain ⟨hP, hD⟩ := va_join (wr := []) (w1 := [(mm, .inr (12, (.int 1 :: .ref m_s :: .ref m_spare :: .ref m_kept :: .ref m_undone :: .ref m_triedWay :: .ref m_isKept :: .int 0 :: .ref m_tape :: .int 0 :: .int 0 :: .int 0 :: .int 0 :: .int 0 :: .int 0 :: .int 0 :: .int 0 :: .int 0 :: .ref m_letters :: .int 0 :: .ref m_choice :: .ref m_row :: .ref m_up :: .ref m_low :: .ref m_m :: .ref m_bestUp :: .ref m_bestLow :: .ref m_replyUp :: .ref m_replyLow :: .ref m_worthUp :: .ref m_worthLow :: .ref m_bestWay :: .int 0 :: .ref m_told :: .int 0 :: []))), (m_s, .inl (g 0, 193, .inl (fun _ => 0)))]) hP hD [0, 1] [] rfl rfl (by decide) (by decide) hk1 hFc hP1 hD1
  generalize H1 = H at hP hS ⊢
  have hP : va_P D vwCl [(mm, .inr (12, (.int 1 :: .ref m_s :: .ref m_spare :: .ref m_kept :: .ref m_undone :: .ref m_triedWay :: .ref m_isKept :: .int 0 :: .ref m_tape :: .int 0 :: .int 0 :: .int 0 :: .int 0 :: .int 0 :: .int 0 :: .int 0 :: .int 0 :: .int 0 :: .ref m_letters :: .int 0 :: .ref m_choice :: .ref m_row :: .ref m_up :: .ref m_low :: .ref m_m :: .ref m_bestUp :: .ref m_bestLow :: .ref m_replyUp :: .ref m_replyLow :: .ref m_worthUp :: .ref m_worthLow :: .ref m_bestWay :: .int 0 :: .ref m_told :: .int 0 :: []))), (m_s, .inl (g 0, 193, .inl (fun _ => 0)))] H := hP
  have hD : va_D A [(mm, .inr (12, (.int 1 :: .ref m_s :: .ref m_spare :: .ref m_kept :: .ref m_undone :: .ref m_triedWay :: .ref m_isKept :: .int 0 :: .ref m_tape :: .int 0 :: .int 0 :: .int 0 :: .int 0 :: .int 0 :: .int 0 :: .int 0 :: .int 0 :: .int 0 :: .ref m_letters :: .int 0 :: .ref m_choice :: .ref m_row :: .ref m_up :: .ref m_low :: .ref m_m :: .ref m_bestUp :: .ref m_bestLow :: .ref m_replyUp :: .ref m_replyLow :: .ref m_worthUp :: .ref m_worthLow :: .ref m_bestWay :: .int 0 :: .ref m_told :: .int 0 :: []))), (m_s, .inl (g 0, 193, .inl (fun _ => 0)))] := hD
  subst hw
  refine lv_lstore (lv' := [(6, .long 0), (5, .int 1), (4, .int 0), (3, .ref oa), (2, .ref mm), (1, .ref x), (0, .ref b)]) hx hb dL_law_977 hl (by decide) rfl (fun ls hl => ?_)
  refine lv_aload_n hx hb dL_law_979 rfl (lv_at hl 4 rfl) ?_
  have hPc := hP.sub (ws' := [(mm, .inr (12, (.int 1 :: .ref m_s :: .ref m_spare :: .ref m_kept :: .ref m_undone :: .ref m_triedWay :: .ref m_isKept :: .int 0 :: .ref m_tape :: .int 0 :: .int 0 :: .int 0 :: .int 0 :: .int 0 :: .int 0 :: .int 0 :: .int 0 :: .int 0 :: .ref m_letters :: .int 0 :: .ref m_choice :: .ref m_row :: .ref m_up :: .ref m_low :: .ref m_m :: .ref m_bestUp :: .ref m_bestLow :: .ref m_replyUp :: .ref m_replyLow :: .ref m_worthUp :: .ref m_worthLow :: .ref m_bestWay :: .int 0 :: .ref m_told :: .int 0 :: [])))]) [0] rfl
  refine vp_callSi (va_Run.run (va_runV (As := []) (rest := []) ⟨hx, hb, hml, hown, hts⟩ (c_X12_thrown l D g mm m_s m_spare m_kept m_undone m_triedWay m_isKept 0 m_tape 0 0 0 0 0 0 0 0 0 m_letters 0 m_choice m_row m_up m_low m_m m_bestUp m_bestLow m_replyUp m_replyLow m_worthUp m_worthLow m_bestWay 0 m_told 0) (cwV 0 hts (tz_gV qw_613 qw_614 qw_615 qw_253 qw_616) rfl rfl rfl (by decide +kernel) ⟨Nat.le_of_ble_eq_true rfl, Nat.le_of_ble_eq_true rfl⟩) ⟨tz_blS, va_recv hK hPc (ci := 12) (q0 := 0) rfl rfl, tz_preS hPc hK⟩ rfl rfl hl.1 rfl (lv_room (Nat.le_of_ble_eq_true rfl)) dL_law_980 ⟨Nat.le_of_ble_eq_true rfl, Nat.le_of_ble_eq_true rfl⟩)) (fun r_708 hw => ?_)
  subst hw
  refine lv_iload hx hb dL_law_983 (lv_at hl 1 rfl) ?_
  refine lv_icmp_eq (tgt := 990) hx hb dL_law_985 (by decide) (fun _ => ?_) (fun h9 => (h9 (by decide)).elim)
  refine lv_iload hx hb dL_law_990 (lv_at hl 1 rfl) ?_
  refine lv_if_ne (tgt := 1006) hx hb dL_law_992 (by decide) (fun _ => ?_) (fun h9 => absurd h9 (by decide))
  refine lv_goto (tgt := 1475) hx hb dL_law_1006 (by decide) ?_
  exact law_end C0 hAl hbA H locs ls _ _ (by decide) (by decide) hS (lv_sub hl [2, 6] rfl)
set_option maxHeartbeats 4000000 in
set_option maxRecDepth 100000 in
theorem law_case_19 {p : Program} {l : Launch} {e : Env} {s : State} {m : MethodId} {below : List Frame} {meth : Method} {c : Code} {b : Nat} {xs : Nat → Int32} {A : Nat → Prop} {D : va_G} {g : Nat → ClassId} (x : Nat) (mm : Nat) (oa : Nat) (tp : Nat) (n : Nat) (dr : Nat) (x_images : Nat) (x_kept : Nat) (rd : Nat) (st : Nat) (tl : Nat) (rg : Nat) (sv : Nat) (oc : Nat) (x_tried : Nat) (lf : Nat) (x_stoppedWays : Nat) (x_stoppedWorth : Nat) (x_withinWorth : Nat) (n_kind : Nat) (n_pay : Nat) (n_name : Nat) (n_ways : Nat) (n_held : Nat) (n_targets : Nat) (n_weights : Nat) (m_s : Nat) (m_spare : Nat) (m_kept : Nat) (m_undone : Nat) (m_triedWay : Nat) (m_isKept : Nat) (m_tape : Nat) (m_letters : Nat) (m_choice : Nat) (m_row : Nat) (m_up : Nat) (m_low : Nat) (m_m : Nat) (m_bestUp : Nat) (m_bestLow : Nat) (m_replyUp : Nat) (m_replyLow : Nat) (m_worthUp : Nat) (m_worthLow : Nat) (m_bestWay : Nat) (m_told : Nat) (hst : l.stackTraces = false) (C0 : lw_At p s m meth c b 6 xs) (hA : ∀ q : Nat, s.heap.size ≤ q → A q) (hAl : ∀ q : Nat, A q → s.heap.size ≤ q) (hbA : ¬ A b) (hK : va_K D vwCl (TY g) s) (hZ : ZT A s s.heap) : ∀ (H : Heap) (locs : List Loc) (ls : Array Slot), va_P D vwCl [(x, .inr (11, [.ref tp, .ref n, .ref dr, .ref x_images, .ref x_kept, .ref rd, .ref st, .ref tl, .ref rg, .ref sv, .ref oc, .ref x_tried, .ref lf, .int 0, .ref x_stoppedWays, .ref x_stoppedWorth, .int 0, .ref x_withinWorth])), (n, .inr (2, [.int 0, .ref n_kind, .ref n_pay, .ref n_name, .ref n_ways, .ref n_held, .ref n_targets, .ref n_weights])), (rg, .inr (5, [.ref n])), (mm, .inr (12, (.int 0 :: .ref m_s :: .ref m_spare :: .ref m_kept :: .ref m_undone :: .ref m_triedWay :: .ref m_isKept :: .int 0 :: .ref m_tape :: .int 0 :: .int 0 :: .int 0 :: .int 0 :: .int 0 :: .int 0 :: .int 0 :: .int 0 :: .int 0 :: .ref m_letters :: .int 0 :: .ref m_choice :: .ref m_row :: .ref m_up :: .ref m_low :: .ref m_m :: .ref m_bestUp :: .ref m_bestLow :: .ref m_replyUp :: .ref m_replyLow :: .ref m_worthUp :: .ref m_worthLow :: .ref m_bestWay :: .int 0 :: .ref m_told :: .int 0 :: []))), (m_s, .inl (g 0, 193, .inl (fun _ => 0)))] H → va_D A [(x, .inr (11, [.ref tp, .ref n, .ref dr, .ref x_images, .ref x_kept, .ref rd, .ref st, .ref tl, .ref rg, .ref sv, .ref oc, .ref x_tried, .ref lf, .int 0, .ref x_stoppedWays, .ref x_stoppedWorth, .int 0, .ref x_withinWorth])), (n, .inr (2, [.int 0, .ref n_kind, .ref n_pay, .ref n_name, .ref n_ways, .ref n_held, .ref n_targets, .ref n_weights])), (rg, .inr (5, [.ref n])), (mm, .inr (12, (.int 0 :: .ref m_s :: .ref m_spare :: .ref m_kept :: .ref m_undone :: .ref m_triedWay :: .ref m_isKept :: .int 0 :: .ref m_tape :: .int 0 :: .int 0 :: .int 0 :: .int 0 :: .int 0 :: .int 0 :: .int 0 :: .int 0 :: .int 0 :: .ref m_letters :: .int 0 :: .ref m_choice :: .ref m_row :: .ref m_up :: .ref m_low :: .ref m_m :: .ref m_bestUp :: .ref m_bestLow :: .ref m_replyUp :: .ref m_replyLow :: .ref m_worthUp :: .ref m_worthLow :: .ref m_bestWay :: .int 0 :: .ref m_told :: .int 0 :: []))), (m_s, .inl (g 0, 193, .inl (fun _ => 0)))] → va_S A s.heap H locs → lv_has ls 8 [(4, .int 0), (3, .ref oa), (2, .ref mm), (1, .ref x), (0, .ref b)] → W p l e room_1 s m #[Value.ref b] below meth c H locs 114 6056 (lw_Z below #[Value.ref b] s) (F0 m 1009 ls []) := by
  obtain ⟨hx, hb, hr, hml, hown, hts0, hX, hbl, hlocks, hgv⟩ := id C0
  have hts : ∀ w ∈ wsL_law, w.before _ s = true := fun w h => hts0 w (wsL_law_in w h)
  intro H locs ls hP hD hS hl
  refine lv_aload_n hx hb dL_law_1009 rfl (lv_at hl 3 rfl) ?_
  refine lv_aload_n hx hb dL_law_1010 rfl (lv_at hl 4 rfl) ?_
  refine lv_iload hx hb dL_law_1011 (lv_at hl 0 rfl) ?_
  refine lv_iconst (v := 1) hx hb dL_law_1013 (by decide) ?_
  refine lv_iadd hx hb dL_law_1014 ?_
  refine tz_i (y := 1) (by decide +kernel) ?_
  refine va_sld hx hb hX hbl hbA hS (tz_in (by decide +kernel)) dL_law_1015 ?_
  refine tz_i (y := xs 1) (congrArg xs (by decide +kernel)) ?_
  refine lv_aload_n hx hb dL_law_1016 rfl (lv_at hl 4 rfl) ?_
  refine lv_iload hx hb dL_law_1017 (lv_at hl 0 rfl) ?_
  refine lv_iconst (v := 2) hx hb dL_law_1019 (by decide) ?_
  refine lv_iadd hx hb dL_law_1020 ?_
  refine tz_i (y := 2) (by decide +kernel) ?_
  refine va_sld hx hb hX hbl hbA hS (tz_in (by decide +kernel)) dL_law_1021 ?_
  refine tz_i (y := xs 2) (congrArg xs (by decide +kernel)) ?_
  have hPc := hP.sub (ws' := [(x, .inr (11, [.ref tp, .ref n, .ref dr, .ref x_images, .ref x_kept, .ref rd, .ref st, .ref tl, .ref rg, .ref sv, .ref oc, .ref x_tried, .ref lf, .int 0, .ref x_stoppedWays, .ref x_stoppedWorth, .int 0, .ref x_withinWorth])), (n, .inr (2, [.int 0, .ref n_kind, .ref n_pay, .ref n_name, .ref n_ways, .ref n_held, .ref n_targets, .ref n_weights])), (rg, .inr (5, [.ref n]))]) [0, 1, 2] rfl
  refine vp_callSi (va_Run.run (va_runV (As := [.int (xs 1), .int (xs 2)]) (rest := []) ⟨hx, hb, hml, hown, hts⟩ (c_X11_forced l D g x (xs 1) (xs 2) tp n dr x_images x_kept rd st tl rg sv oc x_tried lf x_stoppedWays x_stoppedWorth x_withinWorth n_kind n_pay n_name n_ways n_held n_targets n_weights) (cwV 2 hts (tz_gV qw_721 qw_722 qw_723 qw_165 qw_724) rfl rfl rfl (by decide +kernel) ⟨Nat.le_of_ble_eq_true rfl, Nat.le_of_ble_eq_true rfl⟩) ⟨tz_blS, va_recv hK hPc (ci := 11) (q0 := 0) rfl rfl, tz_preS hPc hK⟩ rfl rfl hl.1 rfl (lv_room (Nat.le_of_ble_eq_true rfl)) dL_law_1022 ⟨Nat.le_of_ble_eq_true rfl, Nat.le_of_ble_eq_true rfl⟩)) (fun r_713 hw => ?_)
  have hw_714 := hw
  refine lv_aload_n hx hb dL_law_1025 rfl (lv_at hl 2 rfl) ?_
  refine lv_aload_n hx hb dL_law_1026 rfl (lv_at hl 4 rfl) ?_
  refine lv_iload hx hb dL_law_1027 (lv_at hl 0 rfl) ?_
  refine lv_iconst (v := 1) hx hb dL_law_1029 (by decide) ?_
  refine lv_iadd hx hb dL_law_1030 ?_
  refine tz_i (y := 1) (by decide +kernel) ?_
  refine va_sld hx hb hX hbl hbA hS (tz_in (by decide +kernel)) dL_law_1031 ?_
  refine tz_i (y := xs 1) (congrArg xs (by decide +kernel)) ?_
  refine lv_aload_n hx hb dL_law_1032 rfl (lv_at hl 4 rfl) ?_
  refine lv_iload hx hb dL_law_1033 (lv_at hl 0 rfl) ?_
  refine lv_iconst (v := 2) hx hb dL_law_1035 (by decide) ?_
  refine lv_iadd hx hb dL_law_1036 ?_
  refine tz_i (y := 2) (by decide +kernel) ?_
  refine va_sld hx hb hX hbl hbA hS (tz_in (by decide +kernel)) dL_law_1037 ?_
  refine tz_i (y := xs 2) (congrArg xs (by decide +kernel)) ?_
  have hPc := hP.sub (ws' := [(mm, .inr (12, (.int 0 :: .ref m_s :: .ref m_spare :: .ref m_kept :: .ref m_undone :: .ref m_triedWay :: .ref m_isKept :: .int 0 :: .ref m_tape :: .int 0 :: .int 0 :: .int 0 :: .int 0 :: .int 0 :: .int 0 :: .int 0 :: .int 0 :: .int 0 :: .ref m_letters :: .int 0 :: .ref m_choice :: .ref m_row :: .ref m_up :: .ref m_low :: .ref m_m :: .ref m_bestUp :: .ref m_bestLow :: .ref m_replyUp :: .ref m_replyLow :: .ref m_worthUp :: .ref m_worthLow :: .ref m_bestWay :: .int 0 :: .ref m_told :: .int 0 :: []))), (m_s, .inl (g 0, 193, .inl (fun _ => 0)))]) [3, 4] rfl
  have hDc := hD.sub (ws' := [(mm, .inr (12, (.int 0 :: .ref m_s :: .ref m_spare :: .ref m_kept :: .ref m_undone :: .ref m_triedWay :: .ref m_isKept :: .int 0 :: .ref m_tape :: .int 0 :: .int 0 :: .int 0 :: .int 0 :: .int 0 :: .int 0 :: .int 0 :: .int 0 :: .int 0 :: .ref m_letters :: .int 0 :: .ref m_choice :: .ref m_row :: .ref m_up :: .ref m_low :: .ref m_m :: .ref m_bestUp :: .ref m_bestLow :: .ref m_replyUp :: .ref m_replyLow :: .ref m_worthUp :: .ref m_worthLow :: .ref m_bestWay :: .int 0 :: .ref m_told :: .int 0 :: []))), (m_s, .inl (g 0, 193, .inl (fun _ => 0)))]) [3, 4] (by decide) rfl
  have hFc := va_free (wc := [(mm, .inr (12, (.int 0 :: .ref m_s :: .ref m_spare :: .ref m_kept :: .ref m_undone :: .ref m_triedWay :: .ref m_isKept :: .int 0 :: .ref m_tape :: .int 0 :: .int 0 :: .int 0 :: .int 0 :: .int 0 :: .int 0 :: .int 0 :: .int 0 :: .int 0 :: .ref m_letters :: .int 0 :: .ref m_choice :: .ref m_row :: .ref m_up :: .ref m_low :: .ref m_m :: .ref m_bestUp :: .ref m_bestLow :: .ref m_replyUp :: .ref m_replyLow :: .ref m_worthUp :: .ref m_worthLow :: .ref m_bestWay :: .int 0 :: .ref m_told :: .int 0 :: []))), (m_s, .inl (g 0, 193, .inl (fun _ => 0)))]) hD hS hA [3, 4] rfl
  refine va_calli (va_runV (As := [.int (xs 1), .int (xs 2)]) (rest := [.int r_713]) ⟨hx, hb, hml, hown, hts⟩ (c_X12_forced l D g H.size mm (xs 1) (xs 2) 0 m_s m_spare m_kept m_undone m_triedWay m_isKept 0 m_tape 0 0 0 0 0 0 0 0 0 m_letters 0 m_choice m_row m_up m_low m_m m_bestUp m_bestLow m_replyUp m_replyLow m_worthUp m_worthLow m_bestWay 0 m_told 0) (cwV 2 hts (tz_gV qw_725 qw_726 qw_727 qw_253 qw_728) rfl rfl rfl (by decide +kernel) ⟨Nat.le_of_ble_eq_true rfl, Nat.le_of_ble_eq_true rfl⟩) ⟨tz_blQ, va_recv hK hPc (ci := 12) (q0 := 0) rfl rfl, tz_preQ hPc hK hDc⟩ rfl rfl hl.1 rfl (lv_room (Nat.le_of_ble_eq_true rfl)) dL_law_1038 ⟨Nat.le_of_ble_eq_true rfl, Nat.le_of_ble_eq_true rfl⟩) hS (fun q _ h => hFc q h) hFc (fun r_715 u t H1 locs ht hvm hw hB hz1 hk1 hS => ?_)
  obtain ⟨hP, hD⟩ := va_join (wr := [(x, .inr (11, [.ref tp, .ref n, .ref dr, .ref x_images, .ref x_kept, .ref rd, .ref st, .ref tl, .ref rg, .ref sv, .ref oc, .ref x_tried, .ref lf, .int 0, .ref x_stoppedWays, .ref x_stoppedWorth, .int 0, .ref x_withinWorth])), (n, .inr (2, [.int 0, .ref n_kind, .ref n_pay, .ref n_name, .ref n_ways, .ref n_held, .ref n_targets, .ref n_weights])), (rg, .inr (5, [.ref n]))]) (w1 := []) hP hD [3, 4] [0, 1, 2] rfl rfl (by decide) (by decide) hk1 hFc tz_nilP tz_nilD
  generalize H1 = H at hP hS ⊢
  have hP : va_P D vwCl [(x, .inr (11, [.ref tp, .ref n, .ref dr, .ref x_images, .ref x_kept, .ref rd, .ref st, .ref tl, .ref rg, .ref sv, .ref oc, .ref x_tried, .ref lf, .int 0, .ref x_stoppedWays, .ref x_stoppedWorth, .int 0, .ref x_withinWorth])), (n, .inr (2, [.int 0, .ref n_kind, .ref n_pay, .ref n_name, .ref n_ways, .ref n_held, .ref n_targets, .ref n_weights])), (rg, .inr (5, [.ref n]))] H := hP
  have hD : va_D A [(x, .inr (11, [.ref tp, .ref n, .ref dr, .ref x_images, .ref x_kept, .ref rd, .ref st, .ref tl, .ref rg, .ref sv, .ref oc, .ref x_tried, .ref lf, .int 0, .ref x_stoppedWays, .ref x_stoppedWorth, .int 0, .ref x_withinWorth])), (n, .inr (2, [.int 0, .ref n_kind, .ref n_pay, .ref n_name, .ref n_ways, .ref n_held, .ref n_targets, .ref n_weights])), (rg, .inr (5, [.ref n]))] := hD
  have hw_716 := hw
  refine lv_icmp_eq (tgt := 1475) hx hb dL_law_1041 (by decide) (fun _ => ?_) (fun h9 => (h9 (tz_eq hw_714 hw_716)).elim)
  exact law_end C0 hAl hbA H locs ls _ _ (by decide) (by decide) hS (lv_sub hl [0, 4] rfl)
set_option maxHeartbeats 4000000 in
set_option maxRecDepth 100000 in
theorem law_case_20 {p : Program} {l : Launch} {e : Env} {s : State} {m : MethodId} {below : List Frame} {meth : Method} {c : Code} {b : Nat} {xs : Nat → Int32} {A : Nat → Prop} {D : va_G} {g : Nat → ClassId} (x : Nat) (mm : Nat) (oa : Nat) (tp : Nat) (n : Nat) (dr : Nat) (x_images : Nat) (x_kept : Nat) (rd : Nat) (st : Nat) (tl : Nat) (rg : Nat) (sv : Nat) (oc : Nat) (x_tried : Nat) (lf : Nat) (x_stoppedWays : Nat) (x_stoppedWorth : Nat) (x_withinWorth : Nat) (n_kind : Nat) (n_pay : Nat) (n_name : Nat) (n_ways : Nat) (n_held : Nat) (n_targets : Nat) (n_weights : Nat) (co : Nat) (sv_keep : Nat) (sv_scaled : Nat) (eq : Nat) (co_place : Nat) (eq_rows : Nat) (eq_right : Nat) (rr : Nat → Nat) (oc_plan : Nat) (wo : Nat) (le : Nat) (oc_reach : Nat) (oc_ringBits : Nat) (wo_part : Nat) (le_part : Nat) (m_s : Nat) (m_spare : Nat) (m_kept : Nat) (m_undone : Nat) (m_triedWay : Nat) (m_isKept : Nat) (m_tape : Nat) (m_letters : Nat) (m_choice : Nat) (m_row : Nat) (m_up : Nat) (m_low : Nat) (m_m : Nat) (m_bestUp : Nat) (m_bestLow : Nat) (m_replyUp : Nat) (m_replyLow : Nat) (m_worthUp : Nat) (m_worthLow : Nat) (m_bestWay : Nat) (m_told : Nat) (hst : l.stackTraces = false) (C0 : lw_At p s m meth c b 6 xs) (hA : ∀ q : Nat, s.heap.size ≤ q → A q) (hAl : ∀ q : Nat, A q → s.heap.size ≤ q) (hbA : ¬ A b) (hK : va_K D vwCl (TY g) s) (hZ : ZT A s s.heap) : ∀ (H : Heap) (locs : List Loc) (ls : Array Slot), va_P D vwCl [(x, .inr (11, [.ref tp, .ref n, .ref dr, .ref x_images, .ref x_kept, .ref rd, .ref st, .ref tl, .ref rg, .ref sv, .ref oc, .ref x_tried, .ref lf, .int 0, .ref x_stoppedWays, .ref x_stoppedWorth, .int 0, .ref x_withinWorth])), (n, .inr (2, [.int 0, .ref n_kind, .ref n_pay, .ref n_name, .ref n_ways, .ref n_held, .ref n_targets, .ref n_weights])), (sv, .inr (6, [.ref n, .ref co, .ref sv_keep, .ref sv_scaled])), (co, .inr (0, [.ref n, .ref eq, .ref co_place])), (eq, .inr (1, [.ref eq_rows, .ref eq_right, .long 0])), (eq_right, .inl (g 1, 8, .inr (.inl (fun _ => 0)))), (eq_rows, .inl (g 5, 8, .inr (.inr (.inr (.inr (fun i => if i < 8 then some (rr i) else none)))))), ((rr 0), .inl (g 1, 8, .inr (.inl (fun _ => 0)))), ((rr 1), .inl (g 1, 8, .inr (.inl (fun _ => 0)))), ((rr 2), .inl (g 1, 8, .inr (.inl (fun _ => 0)))), ((rr 3), .inl (g 1, 8, .inr (.inl (fun _ => 0)))), ((rr 4), .inl (g 1, 8, .inr (.inl (fun _ => 0)))), ((rr 5), .inl (g 1, 8, .inr (.inl (fun _ => 0)))), ((rr 6), .inl (g 1, 8, .inr (.inl (fun _ => 0)))), ((rr 7), .inl (g 1, 8, .inr (.inl (fun _ => 0)))), (oc, .inr (3, [.ref n, .ref sv, .ref oc_plan, .ref wo, .ref le, .ref oc_reach, .ref oc_ringBits, .int 0, .int 0, .int 0])), (wo, .inr (10, [.ref wo_part, .long 1])), (le, .inr (10, [.ref le_part, .long 1])), (mm, .inr (12, (.int 0 :: .ref m_s :: .ref m_spare :: .ref m_kept :: .ref m_undone :: .ref m_triedWay :: .ref m_isKept :: .int 0 :: .ref m_tape :: .int 0 :: .int 0 :: .int 0 :: .int 0 :: .int 0 :: .int 0 :: .int 0 :: .int 0 :: .int 0 :: .ref m_letters :: .int 0 :: .ref m_choice :: .ref m_row :: .ref m_up :: .ref m_low :: .ref m_m :: .ref m_bestUp :: .ref m_bestLow :: .ref m_replyUp :: .ref m_replyLow :: .ref m_worthUp :: .ref m_worthLow :: .ref m_bestWay :: .int 0 :: .ref m_told :: .int 0 :: []))), (m_s, .inl (g 0, 193, .inl (fun _ => 0)))] H → va_D A [(x, .inr (11, [.ref tp, .ref n, .ref dr, .ref x_images, .ref x_kept, .ref rd, .ref st, .ref tl, .ref rg, .ref sv, .ref oc, .ref x_tried, .ref lf, .int 0, .ref x_stoppedWays, .ref x_stoppedWorth, .int 0, .ref x_withinWorth])), (n, .inr (2, [.int 0, .ref n_kind, .ref n_pay, .ref n_name, .ref n_ways, .ref n_held, .ref n_targets, .ref n_weights])), (sv, .inr (6, [.ref n, .ref co, .ref sv_keep, .ref sv_scaled])), (co, .inr (0, [.ref n, .ref eq, .ref co_place])), (eq, .inr (1, [.ref eq_rows, .ref eq_right, .long 0])), (eq_right, .inl (g 1, 8, .inr (.inl (fun _ => 0)))), (eq_rows, .inl (g 5, 8, .inr (.inr (.inr (.inr (fun i => if i < 8 then some (rr i) else none)))))), ((rr 0), .inl (g 1, 8, .inr (.inl (fun _ => 0)))), ((rr 1), .inl (g 1, 8, .inr (.inl (fun _ => 0)))), ((rr 2), .inl (g 1, 8, .inr (.inl (fun _ => 0)))), ((rr 3), .inl (g 1, 8, .inr (.inl (fun _ => 0)))), ((rr 4), .inl (g 1, 8, .inr (.inl (fun _ => 0)))), ((rr 5), .inl (g 1, 8, .inr (.inl (fun _ => 0)))), ((rr 6), .inl (g 1, 8, .inr (.inl (fun _ => 0)))), ((rr 7), .inl (g 1, 8, .inr (.inl (fun _ => 0)))), (oc, .inr (3, [.ref n, .ref sv, .ref oc_plan, .ref wo, .ref le, .ref oc_reach, .ref oc_ringBits, .int 0, .int 0, .int 0])), (wo, .inr (10, [.ref wo_part, .long 1])), (le, .inr (10, [.ref le_part, .long 1])), (mm, .inr (12, (.int 0 :: .ref m_s :: .ref m_spare :: .ref m_kept :: .ref m_undone :: .ref m_triedWay :: .ref m_isKept :: .int 0 :: .ref m_tape :: .int 0 :: .int 0 :: .int 0 :: .int 0 :: .int 0 :: .int 0 :: .int 0 :: .int 0 :: .int 0 :: .ref m_letters :: .int 0 :: .ref m_choice :: .ref m_row :: .ref m_up :: .ref m_low :: .ref m_m :: .ref m_bestUp :: .ref m_bestLow :: .ref m_replyUp :: .ref m_replyLow :: .ref m_worthUp :: .ref m_worthLow :: .ref m_bestWay :: .int 0 :: .ref m_told :: .int 0 :: []))), (m_s, .inl (g 0, 193, .inl (fun _ => 0)))] → va_S A s.heap H locs → lv_has ls 8 [(4, .int 0), (3, .ref oa), (2, .ref mm), (1, .ref x), (0, .ref b)] → W p l e room_1 s m #[Value.ref b] below meth c H locs 114 6056 (lw_Z below #[Value.ref b] s) (F0 m 1046 ls []) := by
  obtain ⟨hx, hb, hr, hml, hown, hts0, hX, hbl, hlocks, hgv⟩ := id C0
  have hts : ∀ w ∈ wsL_law, w.before _ s = true := fun w h => hts0 w (wsL_law_in w h)
  intro H locs ls hP hD hS hl
  refine lv_aload_n hx hb dL_law_1046 rfl (lv_at hl 3 rfl) ?_
  have hPc := hP.sub (ws' := [(x, .inr (11, [.ref tp, .ref n, .ref dr, .ref x_images, .ref x_kept, .ref rd, .ref st, .ref tl, .ref rg, .ref sv, .ref oc, .ref x_tried, .ref lf, .int 0, .ref x_stoppedWays, .ref x_stoppedWorth, .int 0, .ref x_withinWorth])), (oc, .inr (3, [.ref n, .ref sv, .ref oc_plan, .ref wo, .ref le, .ref oc_reach, .ref oc_ringBits, .int 0, .int 0, .int 0])), (sv, .inr (6, [.ref n, .ref co, .ref sv_keep, .ref sv_scaled])), (co, .inr (0, [.ref n, .ref eq, .ref co_place])), (n, .inr (2, [.int 0, .ref n_kind, .ref n_pay, .ref n_name, .ref n_ways, .ref n_held, .ref n_targets, .ref n_weights])), (wo, .inr (10, [.ref wo_part, .long 1])), (le, .inr (10, [.ref le_part, .long 1])), (eq, .inr (1, [.ref eq_rows, .ref eq_right, .long 0])), (eq_right, .inl (g 1, 8, .inr (.inl (fun _ => 0)))), (eq_rows, .inl (g 5, 8, .inr (.inr (.inr (.inr (fun i => if i < 8 then some (rr i) else none)))))), ((rr 0), .inl (g 1, 8, .inr (.inl (fun _ => 0)))), ((rr 1), .inl (g 1, 8, .inr (.inl (fun _ => 0)))), ((rr 2), .inl (g 1, 8, .inr (.inl (fun _ => 0)))), ((rr 3), .inl (g 1, 8, .inr (.inl (fun _ => 0)))), ((rr 4), .inl (g 1, 8, .inr (.inl (fun _ => 0)))), ((rr 5), .inl (g 1, 8, .inr (.inl (fun _ => 0)))), ((rr 6), .inl (g 1, 8, .inr (.inl (fun _ => 0)))), ((rr 7), .inl (g 1, 8, .inr (.inl (fun _ => 0))))]) [0, 15, 2, 3, 1, 16, 17, 4, 5, 6, 7, 8, 9, 10, 11, 12, 13, 14] rfl
  have hDc := hD.sub (ws' := [(x, .inr (11, [.ref tp, .ref n, .ref dr, .ref x_images, .ref x_kept, .ref rd, .ref st, .ref tl, .ref rg, .ref sv, .ref oc, .ref x_tried, .ref lf, .int 0, .ref x_stoppedWays, .ref x_stoppedWorth, .int 0, .ref x_withinWorth])), (oc, .inr (3, [.ref n, .ref sv, .ref oc_plan, .ref wo, .ref le, .ref oc_reach, .ref oc_ringBits, .int 0, .int 0, .int 0])), (sv, .inr (6, [.ref n, .ref co, .ref sv_keep, .ref sv_scaled])), (co, .inr (0, [.ref n, .ref eq, .ref co_place])), (n, .inr (2, [.int 0, .ref n_kind, .ref n_pay, .ref n_name, .ref n_ways, .ref n_held, .ref n_targets, .ref n_weights])), (wo, .inr (10, [.ref wo_part, .long 1])), (le, .inr (10, [.ref le_part, .long 1])), (eq, .inr (1, [.ref eq_rows, .ref eq_right, .long 0])), (eq_right, .inl (g 1, 8, .inr (.inl (fun _ => 0)))), (eq_rows, .inl (g 5, 8, .inr (.inr (.inr (.inr (fun i => if i < 8 then some (rr i) else none)))))), ((rr 0), .inl (g 1, 8, .inr (.inl (fun _ => 0)))), ((rr 1), .inl (g 1, 8, .inr (.inl (fun _ => 0)))), ((rr 2), .inl (g 1, 8, .inr (.inl (fun _ => 0)))), ((rr 3), .inl (g 1, 8, .inr (.inl (fun _ => 0)))), ((rr 4), .inl (g 1, 8, .inr (.inl (fun _ => 0)))), ((rr 5), .inl (g 1, 8, .inr (.inl (fun _ => 0)))), ((rr 6), .inl (g 1, 8, .inr (.inl (fun _ => 0)))), ((rr 7), .inl (g 1, 8, .inr (.inl (fun _ => 0))))]) [0, 15, 2, 3, 1, 16, 17, 4, 5, 6, 7, 8, 9, 10, 11, 12, 13, 14] (by decide) rfl
  have hFc := va_free (wc := [(x, .inr (11, [.ref tp, .ref n, .ref dr, .ref x_images, .ref x_kept, .ref rd, .ref st, .ref tl, .ref rg, .ref sv, .ref oc, .ref x_tried, .ref lf, .int 0, .ref x_stoppedWays, .ref x_stoppedWorth, .int 0, .ref x_withinWorth])), (oc, .inr (3, [.ref n, .ref sv, .ref oc_plan, .ref wo, .ref le, .ref oc_reach, .ref oc_ringBits, .int 0, .int 0, .int 0])), (sv, .inr (6, [.ref n, .ref co, .ref sv_keep, .ref sv_scaled])), (co, .inr (0, [.ref n, .ref eq, .ref co_place])), (n, .inr (2, [.int 0, .ref n_kind, .ref n_pay, .ref n_name, .ref n_ways, .ref n_held, .ref n_targets, .ref n_weights])), (wo, .inr (10, [.ref wo_part, .long 1])), (le, .inr (10, [.ref le_part, .long 1])), (eq, .inr (1, [.ref eq_rows, .ref eq_right, .long 0])), (eq_right, .inl (g 1, 8, .inr (.inl (fun _ => 0)))), (eq_rows, .inl (g 5, 8, .inr (.inr (.inr (.inr (fun i => if i < 8 then some (rr i) else none)))))), ((rr 0), .inl (g 1, 8, .inr (.inl (fun _ => 0)))), ((rr 1), .inl (g 1, 8, .inr (.inl (fun _ => 0)))), ((rr 2), .inl (g 1, 8, .inr (.inl (fun _ => 0)))), ((rr 3), .inl (g 1, 8, .inr (.inl (fun _ => 0)))), ((rr 4), .inl (g 1, 8, .inr (.inl (fun _ => 0)))), ((rr 5), .inl (g 1, 8, .inr (.inl (fun _ => 0)))), ((rr 6), .inl (g 1, 8, .inr (.inl (fun _ => 0)))), ((rr 7), .inl (g 1, 8, .inr (.inl (fun _ => 0))))]) hD hS hA [0, 15, 2, 3, 1, 16, 17, 4, 5, 6, 7, 8, 9, 10, 11, 12, 13, 14] rfl
  refine va_calli (va_runV (As := []) (rest := []) ⟨hx, hb, hml, hown, hts⟩ (c_X11_rings l D g H.size x tp n dr x_images x_kept rd st tl rg sv oc x_tried lf x_stoppedWays x_stoppedWorth x_withinWorth oc_plan wo le oc_reach oc_ringBits co sv_keep sv_scaled eq co_place n_kind n_pay n_name n_ways n_held n_targets n_weights wo_part 1 le_part 1 eq_rows eq_right 0 (fun _ => 0) rr (fun _ => 0) (fun _ => 0) (fun _ => 0) (fun _ => 0) (fun _ => 0) (fun _ => 0) (fun _ => 0) (fun _ => 0)) (cwV 0 hts (tz_gV qw_729 qw_730 qw_731 qw_165 qw_732) rfl rfl rfl (by decide +kernel) ⟨Nat.le_of_ble_eq_true rfl, Nat.le_of_ble_eq_true rfl⟩) ⟨tz_blQ, va_recv hK hPc (ci := 11) (q0 := 0) rfl rfl, tz_preQ hPc hK hDc⟩ rfl rfl hl.1 rfl (lv_room (Nat.le_of_ble_eq_true rfl)) dL_law_1047 ⟨Nat.le_of_ble_eq_true rfl, Nat.le_of_ble_eq_true rfl⟩) hS (fun q _ h => hFc q h) hFc (fun r_719 u t H1 locs ht hvm hw hB hz1 hk1 hS => ?_)
  obtain ⟨hP, hD⟩ := va_join (wr := [(mm, .inr (12, (.int 0 :: .ref m_s :: .ref m_spare :: .ref m_kept :: .ref m_undone :: .ref m_triedWay :: .ref m_isKept :: .int 0 :: .ref m_tape :: .int 0 :: .int 0 :: .int 0 :: .int 0 :: .int 0 :: .int 0 :: .int 0 :: .int 0 :: .int 0 :: .ref m_letters :: .int 0 :: .ref m_choice :: .ref m_row :: .ref m_up :: .ref m_low :: .ref m_m :: .ref m_bestUp :: .ref m_bestLow :: .ref m_replyUp :: .ref m_replyLow :: .ref m_worthUp :: .ref m_worthLow :: .ref m_bestWay :: .int 0 :: .ref m_told :: .int 0 :: []))), (m_s, .inl (g 0, 193, .inl (fun _ => 0)))]) (w1 := []) hP hD [0, 15, 2, 3, 1, 16, 17, 4, 5, 6, 7, 8, 9, 10, 11, 12, 13, 14] [18, 19] rfl rfl (by decide) (by decide) hk1 hFc tz_nilP tz_nilD
  generalize H1 = H at hP hS ⊢
  have hP : va_P D vwCl [(mm, .inr (12, (.int 0 :: .ref m_s :: .ref m_spare :: .ref m_kept :: .ref m_undone :: .ref m_triedWay :: .ref m_isKept :: .int 0 :: .ref m_tape :: .int 0 :: .int 0 :: .int 0 :: .int 0 :: .int 0 :: .int 0 :: .int 0 :: .int 0 :: .int 0 :: .ref m_letters :: .int 0 :: .ref m_choice :: .ref m_row :: .ref m_up :: .ref m_low :: .ref m_m :: .ref m_bestUp :: .ref m_bestLow :: .ref m_replyUp :: .ref m_replyLow :: .ref m_worthUp :: .ref m_worthLow :: .ref m_bestWay :: .int 0 :: .ref m_told :: .int 0 :: []))), (m_s, .inl (g 0, 193, .inl (fun _ => 0)))] H := hP
  have hD : va_D A [(mm, .inr (12, (.int 0 :: .ref m_s :: .ref m_spare :: .ref m_kept :: .ref m_undone :: .ref m_triedWay :: .ref m_isKept :: .int 0 :: .ref m_tape :: .int 0 :: .int 0 :: .int 0 :: .int 0 :: .int 0 :: .int 0 :: .int 0 :: .int 0 :: .int 0 :: .ref m_letters :: .int 0 :: .ref m_choice :: .ref m_row :: .ref m_up :: .ref m_low :: .ref m_m :: .ref m_bestUp :: .ref m_bestLow :: .ref m_replyUp :: .ref m_replyLow :: .ref m_worthUp :: .ref m_worthLow :: .ref m_bestWay :: .int 0 :: .ref m_told :: .int 0 :: []))), (m_s, .inl (g 0, 193, .inl (fun _ => 0)))] := hD
  subst hw
  refine lv_aload_n hx hb dL_law_1050 rfl (lv_at hl 2 rfl) ?_
  have hPc := hP.sub (ws' := [(mm, .inr (12, (.int 0 :: .ref m_s :: .ref m_spare :: .ref m_kept :: .ref m_undone :: .ref m_triedWay :: .ref m_isKept :: .int 0 :: .ref m_tape :: .int 0 :: .int 0 :: .int 0 :: .int 0 :: .int 0 :: .int 0 :: .int 0 :: .int 0 :: .int 0 :: .ref m_letters :: .int 0 :: .ref m_choice :: .ref m_row :: .ref m_up :: .ref m_low :: .ref m_m :: .ref m_bestUp :: .ref m_bestLow :: .ref m_replyUp :: .ref m_replyLow :: .ref m_worthUp :: .ref m_worthLow :: .ref m_bestWay :: .int 0 :: .ref m_told :: .int 0 :: []))), (m_s, .inl (g 0, 193, .inl (fun _ => 0)))]) [0, 1] rfl
  have hDc := hD.sub (ws' := [(mm, .inr (12, (.int 0 :: .ref m_s :: .ref m_spare :: .ref m_kept :: .ref m_undone :: .ref m_triedWay :: .ref m_isKept :: .int 0 :: .ref m_tape :: .int 0 :: .int 0 :: .int 0 :: .int 0 :: .int 0 :: .int 0 :: .int 0 :: .int 0 :: .int 0 :: .ref m_letters :: .int 0 :: .ref m_choice :: .ref m_row :: .ref m_up :: .ref m_low :: .ref m_m :: .ref m_bestUp :: .ref m_bestLow :: .ref m_replyUp :: .ref m_replyLow :: .ref m_worthUp :: .ref m_worthLow :: .ref m_bestWay :: .int 0 :: .ref m_told :: .int 0 :: []))), (m_s, .inl (g 0, 193, .inl (fun _ => 0)))]) [0, 1] (by decide) rfl
  have hFc := va_free (wc := [(mm, .inr (12, (.int 0 :: .ref m_s :: .ref m_spare :: .ref m_kept :: .ref m_undone :: .ref m_triedWay :: .ref m_isKept :: .int 0 :: .ref m_tape :: .int 0 :: .int 0 :: .int 0 :: .int 0 :: .int 0 :: .int 0 :: .int 0 :: .int 0 :: .int 0 :: .ref m_letters :: .int 0 :: .ref m_choice :: .ref m_row :: .ref m_up :: .ref m_low :: .ref m_m :: .ref m_bestUp :: .ref m_bestLow :: .ref m_replyUp :: .ref m_replyLow :: .ref m_worthUp :: .ref m_worthLow :: .ref m_bestWay :: .int 0 :: .ref m_told :: .int 0 :: []))), (m_s, .inl (g 0, 193, .inl (fun _ => 0)))]) hD hS hA [0, 1] rfl
  refine va_calli (va_runV (As := []) (rest := [.int 0]) ⟨hx, hb, hml, hown, hts⟩ (c_X12_rings l D g H.size mm 0 m_s m_spare m_kept m_undone m_triedWay m_isKept 0 m_tape 0 0 0 0 0 0 0 0 0 m_letters m_choice m_row m_up m_low m_m m_bestUp m_bestLow m_replyUp m_replyLow m_worthUp m_worthLow m_bestWay 0 m_told 0) (cwV 0 hts (tz_gV qw_733 qw_734 qw_735 qw_253 qw_736) rfl rfl rfl (by decide +kernel) ⟨Nat.le_of_ble_eq_true rfl, Nat.le_of_ble_eq_true rfl⟩) ⟨tz_blQ, va_recv hK hPc (ci := 12) (q0 := 0) rfl rfl, tz_preQ hPc hK hDc⟩ rfl rfl hl.1 rfl (lv_room (Nat.le_of_ble_eq_true rfl)) dL_law_1051 ⟨Nat.le_of_ble_eq_true rfl, Nat.le_of_ble_eq_true rfl⟩) hS (fun q _ h => hFc q h) hFc (fun r_720 u t H1 locs ht hvm hw hB hz1 hk1 hS => ?_)
  obtain ⟨hP, hD⟩ := va_join (wr := []) (w1 := []) hP hD [0, 1] [] rfl rfl (by decide) (by decide) hk1 hFc tz_nilP tz_nilD
  generalize H1 = H at hP hS ⊢
  have hP : va_P D vwCl [] H := hP
  have hD : va_D A [] := hD
  subst hw
  refine lv_icmp_eq (tgt := 1475) hx hb dL_law_1054 (by decide) (fun _ => ?_) (fun h9 => (h9 (by decide)).elim)
  exact law_end C0 hAl hbA H locs ls _ _ (by decide) (by decide) hS (lv_sub hl [0, 4] rfl)
set_option maxHeartbeats 4000000 in
set_option maxRecDepth 100000 in
theorem law_case_21 {p : Program} {l : Launch} {e : Env} {s : State} {m : MethodId} {below : List Frame} {meth : Method} {c : Code} {b : Nat} {xs : Nat → Int32} {A : Nat → Prop} {D : va_G} {g : Nat → ClassId} (x : Nat) (mm : Nat) (oa : Nat) (tp : Nat) (n : Nat) (dr : Nat) (x_images : Nat) (x_kept : Nat) (rd : Nat) (st : Nat) (tl : Nat) (rg : Nat) (sv : Nat) (oc : Nat) (x_tried : Nat) (lf : Nat) (x_stoppedWays : Nat) (x_stoppedWorth : Nat) (x_withinWorth : Nat) (n_kind : Nat) (n_pay : Nat) (n_name : Nat) (n_ways : Nat) (n_held : Nat) (n_targets : Nat) (n_weights : Nat) (co : Nat) (sv_keep : Nat) (sv_scaled : Nat) (eq : Nat) (co_place : Nat) (eq_rows : Nat) (eq_right : Nat) (rr : Nat → Nat) (oc_plan : Nat) (wo : Nat) (le : Nat) (oc_reach : Nat) (oc_ringBits : Nat) (wo_part : Nat) (le_part : Nat) (m_s : Nat) (m_spare : Nat) (m_kept : Nat) (m_undone : Nat) (m_triedWay : Nat) (m_isKept : Nat) (m_tape : Nat) (m_letters : Nat) (m_choice : Nat) (m_row : Nat) (m_up : Nat) (m_low : Nat) (m_m : Nat) (m_bestUp : Nat) (m_bestLow : Nat) (m_replyUp : Nat) (m_replyLow : Nat) (m_worthUp : Nat) (m_worthLow : Nat) (m_bestWay : Nat) (m_told : Nat) (hst : l.stackTraces = false) (C0 : lw_At p s m meth c b 6 xs) (hA : ∀ q : Nat, s.heap.size ≤ q → A q) (hAl : ∀ q : Nat, A q → s.heap.size ≤ q) (hbA : ¬ A b) (hK : va_K D vwCl (TY g) s) (hZ : ZT A s s.heap) : ∀ (H : Heap) (locs : List Loc) (ls : Array Slot), va_P D vwCl [(x, .inr (11, [.ref tp, .ref n, .ref dr, .ref x_images, .ref x_kept, .ref rd, .ref st, .ref tl, .ref rg, .ref sv, .ref oc, .ref x_tried, .ref lf, .int 0, .ref x_stoppedWays, .ref x_stoppedWorth, .int 0, .ref x_withinWorth])), (n, .inr (2, [.int 0, .ref n_kind, .ref n_pay, .ref n_name, .ref n_ways, .ref n_held, .ref n_targets, .ref n_weights])), (sv, .inr (6, [.ref n, .ref co, .ref sv_keep, .ref sv_scaled])), (co, .inr (0, [.ref n, .ref eq, .ref co_place])), (eq, .inr (1, [.ref eq_rows, .ref eq_right, .long 0])), (eq_right, .inl (g 1, 8, .inr (.inl (fun _ => 0)))), (eq_rows, .inl (g 5, 8, .inr (.inr (.inr (.inr (fun i => if i < 8 then some (rr i) else none)))))), ((rr 0), .inl (g 1, 8, .inr (.inl (fun _ => 0)))), ((rr 1), .inl (g 1, 8, .inr (.inl (fun _ => 0)))), ((rr 2), .inl (g 1, 8, .inr (.inl (fun _ => 0)))), ((rr 3), .inl (g 1, 8, .inr (.inl (fun _ => 0)))), ((rr 4), .inl (g 1, 8, .inr (.inl (fun _ => 0)))), ((rr 5), .inl (g 1, 8, .inr (.inl (fun _ => 0)))), ((rr 6), .inl (g 1, 8, .inr (.inl (fun _ => 0)))), ((rr 7), .inl (g 1, 8, .inr (.inl (fun _ => 0)))), (oc, .inr (3, [.ref n, .ref sv, .ref oc_plan, .ref wo, .ref le, .ref oc_reach, .ref oc_ringBits, .int 0, .int 0, .int 0])), (wo, .inr (10, [.ref wo_part, .long 1])), (le, .inr (10, [.ref le_part, .long 1])), (mm, .inr (12, (.int 0 :: .ref m_s :: .ref m_spare :: .ref m_kept :: .ref m_undone :: .ref m_triedWay :: .ref m_isKept :: .int 0 :: .ref m_tape :: .int 0 :: .int 0 :: .int 0 :: .int 0 :: .int 0 :: .int 0 :: .int 0 :: .int 0 :: .int 0 :: .ref m_letters :: .int 0 :: .ref m_choice :: .ref m_row :: .ref m_up :: .ref m_low :: .ref m_m :: .ref m_bestUp :: .ref m_bestLow :: .ref m_replyUp :: .ref m_replyLow :: .ref m_worthUp :: .ref m_worthLow :: .ref m_bestWay :: .int 0 :: .ref m_told :: .int 0 :: []))), (m_s, .inl (g 0, 193, .inl (fun _ => 0)))] H → va_D A [(x, .inr (11, [.ref tp, .ref n, .ref dr, .ref x_images, .ref x_kept, .ref rd, .ref st, .ref tl, .ref rg, .ref sv, .ref oc, .ref x_tried, .ref lf, .int 0, .ref x_stoppedWays, .ref x_stoppedWorth, .int 0, .ref x_withinWorth])), (n, .inr (2, [.int 0, .ref n_kind, .ref n_pay, .ref n_name, .ref n_ways, .ref n_held, .ref n_targets, .ref n_weights])), (sv, .inr (6, [.ref n, .ref co, .ref sv_keep, .ref sv_scaled])), (co, .inr (0, [.ref n, .ref eq, .ref co_place])), (eq, .inr (1, [.ref eq_rows, .ref eq_right, .long 0])), (eq_right, .inl (g 1, 8, .inr (.inl (fun _ => 0)))), (eq_rows, .inl (g 5, 8, .inr (.inr (.inr (.inr (fun i => if i < 8 then some (rr i) else none)))))), ((rr 0), .inl (g 1, 8, .inr (.inl (fun _ => 0)))), ((rr 1), .inl (g 1, 8, .inr (.inl (fun _ => 0)))), ((rr 2), .inl (g 1, 8, .inr (.inl (fun _ => 0)))), ((rr 3), .inl (g 1, 8, .inr (.inl (fun _ => 0)))), ((rr 4), .inl (g 1, 8, .inr (.inl (fun _ => 0)))), ((rr 5), .inl (g 1, 8, .inr (.inl (fun _ => 0)))), ((rr 6), .inl (g 1, 8, .inr (.inl (fun _ => 0)))), ((rr 7), .inl (g 1, 8, .inr (.inl (fun _ => 0)))), (oc, .inr (3, [.ref n, .ref sv, .ref oc_plan, .ref wo, .ref le, .ref oc_reach, .ref oc_ringBits, .int 0, .int 0, .int 0])), (wo, .inr (10, [.ref wo_part, .long 1])), (le, .inr (10, [.ref le_part, .long 1])), (mm, .inr (12, (.int 0 :: .ref m_s :: .ref m_spare :: .ref m_kept :: .ref m_undone :: .ref m_triedWay :: .ref m_isKept :: .int 0 :: .ref m_tape :: .int 0 :: .int 0 :: .int 0 :: .int 0 :: .int 0 :: .int 0 :: .int 0 :: .int 0 :: .int 0 :: .ref m_letters :: .int 0 :: .ref m_choice :: .ref m_row :: .ref m_up :: .ref m_low :: .ref m_m :: .ref m_bestUp :: .ref m_bestLow :: .ref m_replyUp :: .ref m_replyLow :: .ref m_worthUp :: .ref m_worthLow :: .ref m_bestWay :: .int 0 :: .ref m_told :: .int 0 :: []))), (m_s, .inl (g 0, 193, .inl (fun _ => 0)))] → va_S A s.heap H locs → lv_has ls 8 [(4, .int 0), (3, .ref oa), (2, .ref mm), (1, .ref x), (0, .ref b)] → W p l e room_1 s m #[Value.ref b] below meth c H locs 114 6056 (lw_Z below #[Value.ref b] s) (F0 m 1059 ls []) := by
  obtain ⟨hx, hb, hr, hml, hown, hts0, hX, hbl, hlocks, hgv⟩ := id C0
  have hts : ∀ w ∈ wsL_law, w.before _ s = true := fun w h => hts0 w (wsL_law_in w h)
  intro H locs ls hP hD hS hl
  refine lv_aload_n hx hb dL_law_1059 rfl (lv_at hl 3 rfl) ?_
  refine lv_aload_n hx hb dL_law_1060 rfl (lv_at hl 4 rfl) ?_
  refine lv_iload hx hb dL_law_1061 (lv_at hl 0 rfl) ?_
  refine lv_iconst (v := 1) hx hb dL_law_1063 (by decide) ?_
  refine lv_iadd hx hb dL_law_1064 ?_
  refine tz_i (y := 1) (by decide +kernel) ?_
  refine va_sld hx hb hX hbl hbA hS (tz_in (by decide +kernel)) dL_law_1065 ?_
  refine tz_i (y := xs 1) (congrArg xs (by decide +kernel)) ?_
  have hPc := hP.sub (ws' := [(x, .inr (11, [.ref tp, .ref n, .ref dr, .ref x_images, .ref x_kept, .ref rd, .ref st, .ref tl, .ref rg, .ref sv, .ref oc, .ref x_tried, .ref lf, .int 0, .ref x_stoppedWays, .ref x_stoppedWorth, .int 0, .ref x_withinWorth])), (oc, .inr (3, [.ref n, .ref sv, .ref oc_plan, .ref wo, .ref le, .ref oc_reach, .ref oc_ringBits, .int 0, .int 0, .int 0])), (sv, .inr (6, [.ref n, .ref co, .ref sv_keep, .ref sv_scaled])), (co, .inr (0, [.ref n, .ref eq, .ref co_place])), (n, .inr (2, [.int 0, .ref n_kind, .ref n_pay, .ref n_name, .ref n_ways, .ref n_held, .ref n_targets, .ref n_weights])), (wo, .inr (10, [.ref wo_part, .long 1])), (le, .inr (10, [.ref le_part, .long 1])), (eq, .inr (1, [.ref eq_rows, .ref eq_right, .long 0])), (eq_right, .inl (g 1, 8, .inr (.inl (fun _ => 0)))), (eq_rows, .inl (g 5, 8, .inr (.inr (.inr (.inr (fun i => if i < 8 then some (rr i) else none)))))), ((rr 0), .inl (g 1, 8, .inr (.inl (fun _ => 0)))), ((rr 1), .inl (g 1, 8, .inr (.inl (fun _ => 0)))), ((rr 2), .inl (g 1, 8, .inr (.inl (fun _ => 0)))), ((rr 3), .inl (g 1, 8, .inr (.inl (fun _ => 0)))), ((rr 4), .inl (g 1, 8, .inr (.inl (fun _ => 0)))), ((rr 5), .inl (g 1, 8, .inr (.inl (fun _ => 0)))), ((rr 6), .inl (g 1, 8, .inr (.inl (fun _ => 0)))), ((rr 7), .inl (g 1, 8, .inr (.inl (fun _ => 0))))]) [0, 15, 2, 3, 1, 16, 17, 4, 5, 6, 7, 8, 9, 10, 11, 12, 13, 14] rfl
  have hDc := hD.sub (ws' := [(x, .inr (11, [.ref tp, .ref n, .ref dr, .ref x_images, .ref x_kept, .ref rd, .ref st, .ref tl, .ref rg, .ref sv, .ref oc, .ref x_tried, .ref lf, .int 0, .ref x_stoppedWays, .ref x_stoppedWorth, .int 0, .ref x_withinWorth])), (oc, .inr (3, [.ref n, .ref sv, .ref oc_plan, .ref wo, .ref le, .ref oc_reach, .ref oc_ringBits, .int 0, .int 0, .int 0])), (sv, .inr (6, [.ref n, .ref co, .ref sv_keep, .ref sv_scaled])), (co, .inr (0, [.ref n, .ref eq, .ref co_place])), (n, .inr (2, [.int 0, .ref n_kind, .ref n_pay, .ref n_name, .ref n_ways, .ref n_held, .ref n_targets, .ref n_weights])), (wo, .inr (10, [.ref wo_part, .long 1])), (le, .inr (10, [.ref le_part, .long 1])), (eq, .inr (1, [.ref eq_rows, .ref eq_right, .long 0])), (eq_right, .inl (g 1, 8, .inr (.inl (fun _ => 0)))), (eq_rows, .inl (g 5, 8, .inr (.inr (.inr (.inr (fun i => if i < 8 then some (rr i) else none)))))), ((rr 0), .inl (g 1, 8, .inr (.inl (fun _ => 0)))), ((rr 1), .inl (g 1, 8, .inr (.inl (fun _ => 0)))), ((rr 2), .inl (g 1, 8, .inr (.inl (fun _ => 0)))), ((rr 3), .inl (g 1, 8, .inr (.inl (fun _ => 0)))), ((rr 4), .inl (g 1, 8, .inr (.inl (fun _ => 0)))), ((rr 5), .inl (g 1, 8, .inr (.inl (fun _ => 0)))), ((rr 6), .inl (g 1, 8, .inr (.inl (fun _ => 0)))), ((rr 7), .inl (g 1, 8, .inr (.inl (fun _ => 0))))]) [0, 15, 2, 3, 1, 16, 17, 4, 5, 6, 7, 8, 9, 10, 11, 12, 13, 14] (by decide) rfl
  have hFc := va_free (wc := [(x, .inr (11, [.ref tp, .ref n, .ref dr, .ref x_images, .ref x_kept, .ref rd, .ref st, .ref tl, .ref rg, .ref sv, .ref oc, .ref x_tried, .ref lf, .int 0, .ref x_stoppedWays, .ref x_stoppedWorth, .int 0, .ref x_withinWorth])), (oc, .inr (3, [.ref n, .ref sv, .ref oc_plan, .ref wo, .ref le, .ref oc_reach, .ref oc_ringBits, .int 0, .int 0, .int 0])), (sv, .inr (6, [.ref n, .ref co, .ref sv_keep, .ref sv_scaled])), (co, .inr (0, [.ref n, .ref eq, .ref co_place])), (n, .inr (2, [.int 0, .ref n_kind, .ref n_pay, .ref n_name, .ref n_ways, .ref n_held, .ref n_targets, .ref n_weights])), (wo, .inr (10, [.ref wo_part, .long 1])), (le, .inr (10, [.ref le_part, .long 1])), (eq, .inr (1, [.ref eq_rows, .ref eq_right, .long 0])), (eq_right, .inl (g 1, 8, .inr (.inl (fun _ => 0)))), (eq_rows, .inl (g 5, 8, .inr (.inr (.inr (.inr (fun i => if i < 8 then some (rr i) else none)))))), ((rr 0), .inl (g 1, 8, .inr (.inl (fun _ => 0)))), ((rr 1), .inl (g 1, 8, .inr (.inl (fun _ => 0)))), ((rr 2), .inl (g 1, 8, .inr (.inl (fun _ => 0)))), ((rr 3), .inl (g 1, 8, .inr (.inl (fun _ => 0)))), ((rr 4), .inl (g 1, 8, .inr (.inl (fun _ => 0)))), ((rr 5), .inl (g 1, 8, .inr (.inl (fun _ => 0)))), ((rr 6), .inl (g 1, 8, .inr (.inl (fun _ => 0)))), ((rr 7), .inl (g 1, 8, .inr (.inl (fun _ => 0))))]) hD hS hA [0, 15, 2, 3, 1, 16, 17, 4, 5, 6, 7, 8, 9, 10, 11, 12, 13, 14] rfl
  refine va_calli (va_runV (As := [.int (xs 1)]) (rest := []) ⟨hx, hb, hml, hown, hts⟩ (c_X11_ring l D g H.size x (xs 1) tp n dr x_images x_kept rd st tl rg sv oc x_tried lf x_stoppedWays x_stoppedWorth x_withinWorth oc_plan wo le oc_reach oc_ringBits co sv_keep sv_scaled eq co_place n_kind n_pay n_name n_ways n_held n_targets n_weights wo_part 1 le_part 1 eq_rows eq_right 0 (fun _ => 0) rr (fun _ => 0) (fun _ => 0) (fun _ => 0) (fun _ => 0) (fun _ => 0) (fun _ => 0) (fun _ => 0) (fun _ => 0)) (cwV 1 hts (tz_gV qw_737 qw_738 qw_739 qw_165 qw_740) rfl rfl rfl (by decide +kernel) ⟨Nat.le_of_ble_eq_true rfl, Nat.le_of_ble_eq_true rfl⟩) ⟨tz_blQ, va_recv hK hPc (ci := 11) (q0 := 0) rfl rfl, tz_preQ hPc hK hDc⟩ rfl rfl hl.1 rfl (lv_room (Nat.le_of_ble_eq_true rfl)) dL_law_1066 ⟨Nat.le_of_ble_eq_true rfl, Nat.le_of_ble_eq_true rfl⟩) hS (fun q _ h => hFc q h) hFc (fun r_723 u t H1 locs ht hvm hw hB hz1 hk1 hS => ?_)
  obtain ⟨hP, hD⟩ := va_join (wr := [(mm, .inr (12, (.int 0 :: .ref m_s :: .ref m_spare :: .ref m_kept :: .ref m_undone :: .ref m_triedWay :: .ref m_isKept :: .int 0 :: .ref m_tape :: .int 0 :: .int 0 :: .int 0 :: .int 0 :: .int 0 :: .int 0 :: .int 0 :: .int 0 :: .int 0 :: .ref m_letters :: .int 0 :: .ref m_choice :: .ref m_row :: .ref m_up :: .ref m_low :: .ref m_m :: .ref m_bestUp :: .ref m_bestLow :: .ref m_replyUp :: .ref m_replyLow :: .ref m_worthUp :: .ref m_worthLow :: .ref m_bestWay :: .int 0 :: .ref m_told :: .int 0 :: []))), (m_s, .inl (g 0, 193, .inl (fun _ => 0)))]) (w1 := []) hP hD [0, 15, 2, 3, 1, 16, 17, 4, 5, 6, 7, 8, 9, 10, 11, 12, 13, 14] [18, 19] rfl rfl (by decide) (by decide) hk1 hFc tz_nilP tz_nilD
  generalize H1 = H at hP hS ⊢
  have hP : va_P D vwCl [(mm, .inr (12, (.int 0 :: .ref m_s :: .ref m_spare :: .ref m_kept :: .ref m_undone :: .ref m_triedWay :: .ref m_isKept :: .int 0 :: .ref m_tape :: .int 0 :: .int 0 :: .int 0 :: .int 0 :: .int 0 :: .int 0 :: .int 0 :: .int 0 :: .int 0 :: .ref m_letters :: .int 0 :: .ref m_choice :: .ref m_row :: .ref m_up :: .ref m_low :: .ref m_m :: .ref m_bestUp :: .ref m_bestLow :: .ref m_replyUp :: .ref m_replyLow :: .ref m_worthUp :: .ref m_worthLow :: .ref m_bestWay :: .int 0 :: .ref m_told :: .int 0 :: []))), (m_s, .inl (g 0, 193, .inl (fun _ => 0)))] H := hP
  have hD : va_D A [(mm, .inr (12, (.int 0 :: .ref m_s :: .ref m_spare :: .ref m_kept :: .ref m_undone :: .ref m_triedWay :: .ref m_isKept :: .int 0 :: .ref m_tape :: .int 0 :: .int 0 :: .int 0 :: .int 0 :: .int 0 :: .int 0 :: .int 0 :: .int 0 :: .int 0 :: .ref m_letters :: .int 0 :: .ref m_choice :: .ref m_row :: .ref m_up :: .ref m_low :: .ref m_m :: .ref m_bestUp :: .ref m_bestLow :: .ref m_replyUp :: .ref m_replyLow :: .ref m_worthUp :: .ref m_worthLow :: .ref m_bestWay :: .int 0 :: .ref m_told :: .int 0 :: []))), (m_s, .inl (g 0, 193, .inl (fun _ => 0)))] := hD
  subst hw
  refine lv_aload_n hx hb dL_law_1069 rfl (lv_at hl 2 rfl) ?_
  refine lv_aload_n hx hb dL_law_1070 rfl (lv_at hl 4 rfl) ?_
  refine lv_iload hx hb dL_law_1071 (lv_at hl 0 rfl) ?_
  refine lv_iconst (v := 1) hx hb dL_law_1073 (by decide) ?_
  refine lv_iadd hx hb dL_law_1074 ?_
  refine tz_i (y := 1) (by decide +kernel) ?_
  refine va_sld hx hb hX hbl hbA hS (tz_in (by decide +kernel)) dL_law_1075 ?_
  refine tz_i (y := xs 1) (congrArg xs (by decide +kernel)) ?_
  have hPc := hP.sub (ws' := [(mm, .inr (12, (.int 0 :: .ref m_s :: .ref m_spare :: .ref m_kept :: .ref m_undone :: .ref m_triedWay :: .ref m_isKept :: .int 0 :: .ref m_tape :: .int 0 :: .int 0 :: .int 0 :: .int 0 :: .int 0 :: .int 0 :: .int 0 :: .int 0 :: .int 0 :: .ref m_letters :: .int 0 :: .ref m_choice :: .ref m_row :: .ref m_up :: .ref m_low :: .ref m_m :: .ref m_bestUp :: .ref m_bestLow :: .ref m_replyUp :: .ref m_replyLow :: .ref m_worthUp :: .ref m_worthLow :: .ref m_bestWay :: .int 0 :: .ref m_told :: .int 0 :: []))), (m_s, .inl (g 0, 193, .inl (fun _ => 0)))]) [0, 1] rfl
  have hDc := hD.sub (ws' := [(mm, .inr (12, (.int 0 :: .ref m_s :: .ref m_spare :: .ref m_kept :: .ref m_undone :: .ref m_triedWay :: .ref m_isKept :: .int 0 :: .ref m_tape :: .int 0 :: .int 0 :: .int 0 :: .int 0 :: .int 0 :: .int 0 :: .int 0 :: .int 0 :: .int 0 :: .ref m_letters :: .int 0 :: .ref m_choice :: .ref m_row :: .ref m_up :: .ref m_low :: .ref m_m :: .ref m_bestUp :: .ref m_bestLow :: .ref m_replyUp :: .ref m_replyLow :: .ref m_worthUp :: .ref m_worthLow :: .ref m_bestWay :: .int 0 :: .ref m_told :: .int 0 :: []))), (m_s, .inl (g 0, 193, .inl (fun _ => 0)))]) [0, 1] (by decide) rfl
  have hFc := va_free (wc := [(mm, .inr (12, (.int 0 :: .ref m_s :: .ref m_spare :: .ref m_kept :: .ref m_undone :: .ref m_triedWay :: .ref m_isKept :: .int 0 :: .ref m_tape :: .int 0 :: .int 0 :: .int 0 :: .int 0 :: .int 0 :: .int 0 :: .int 0 :: .int 0 :: .int 0 :: .ref m_letters :: .int 0 :: .ref m_choice :: .ref m_row :: .ref m_up :: .ref m_low :: .ref m_m :: .ref m_bestUp :: .ref m_bestLow :: .ref m_replyUp :: .ref m_replyLow :: .ref m_worthUp :: .ref m_worthLow :: .ref m_bestWay :: .int 0 :: .ref m_told :: .int 0 :: []))), (m_s, .inl (g 0, 193, .inl (fun _ => 0)))]) hD hS hA [0, 1] rfl
  refine va_calli (va_runV (As := [.int (xs 1)]) (rest := [.int (-1)]) ⟨hx, hb, hml, hown, hts⟩ (c_X12_ring l D g H.size mm (xs 1) 0 m_s m_spare m_kept m_undone m_triedWay m_isKept 0 m_tape 0 0 0 0 0 0 0 0 0 m_letters m_choice m_row m_up m_low m_m m_bestUp m_bestLow m_replyUp m_replyLow m_worthUp m_worthLow m_bestWay 0 m_told 0) (cwV 1 hts (tz_gV qw_741 qw_345 qw_346 qw_253 qw_347) rfl rfl rfl (by decide +kernel) ⟨Nat.le_of_ble_eq_true rfl, Nat.le_of_ble_eq_true rfl⟩) ⟨tz_blQ, va_recv hK hPc (ci := 12) (q0 := 0) rfl rfl, tz_preQ hPc hK hDc⟩ rfl rfl hl.1 rfl (lv_room (Nat.le_of_ble_eq_true rfl)) dL_law_1076 ⟨Nat.le_of_ble_eq_true rfl, Nat.le_of_ble_eq_true rfl⟩) hS (fun q _ h => hFc q h) hFc (fun r_724 u t H1 locs ht hvm hw hB hz1 hk1 hS => ?_)
  obtain ⟨hP1, hD1⟩ := hB
  rw [ht] at hP1
  obtain ⟨hP, hD⟩ := va_join (wr := []) (w1 := [(mm, .inr (12, (.int 0 :: .ref m_s :: .ref m_spare :: .ref m_kept :: .ref m_undone :: .ref m_triedWay :: .ref m_isKept :: .int 0 :: .ref m_tape :: .int 0 :: .int 0 :: .int 0 :: .int 0 :: .int 0 :: .int 0 :: .int 0 :: .int 0 :: .int 0 :: .ref m_letters :: .int 1 :: .ref m_choice :: .ref m_row :: .ref m_up :: .ref m_low :: .ref m_m :: .ref m_bestUp :: .ref m_bestLow :: .ref m_replyUp :: .ref m_replyLow :: .ref m_worthUp :: .ref m_worthLow :: .ref m_bestWay :: .int 0 :: .ref m_told :: .int 0 :: []))), (m_s, .inl (g 0, 193, .inl (fun _ => 0)))]) hP hD [0, 1] [] rfl rfl (by decide) (by decide) hk1 hFc hP1 hD1
  generalize H1 = H at hP hS ⊢
  have hP : va_P D vwCl [(mm, .inr (12, (.int 0 :: .ref m_s :: .ref m_spare :: .ref m_kept :: .ref m_undone :: .ref m_triedWay :: .ref m_isKept :: .int 0 :: .ref m_tape :: .int 0 :: .int 0 :: .int 0 :: .int 0 :: .int 0 :: .int 0 :: .int 0 :: .int 0 :: .int 0 :: .ref m_letters :: .int 1 :: .ref m_choice :: .ref m_row :: .ref m_up :: .ref m_low :: .ref m_m :: .ref m_bestUp :: .ref m_bestLow :: .ref m_replyUp :: .ref m_replyLow :: .ref m_worthUp :: .ref m_worthLow :: .ref m_bestWay :: .int 0 :: .ref m_told :: .int 0 :: []))), (m_s, .inl (g 0, 193, .inl (fun _ => 0)))] H := hP
  have hD : va_D A [(mm, .inr (12, (.int 0 :: .ref m_s :: .ref m_spare :: .ref m_kept :: .ref m_undone :: .ref m_triedWay :: .ref m_isKept :: .int 0 :: .ref m_tape :: .int 0 :: .int 0 :: .int 0 :: .int 0 :: .int 0 :: .int 0 :: .int 0 :: .int 0 :: .int 0 :: .ref m_letters :: .int 1 :: .ref m_choice :: .ref m_row :: .ref m_up :: .ref m_low :: .ref m_m :: .ref m_bestUp :: .ref m_bestLow :: .ref m_replyUp :: .ref m_replyLow :: .ref m_worthUp :: .ref m_worthLow :: .ref m_bestWay :: .int 0 :: .ref m_told :: .int 0 :: []))), (m_s, .inl (g 0, 193, .inl (fun _ => 0)))] := hD
  subst hw
  refine lv_icmp_eq (tgt := 1475) hx hb dL_law_1079 (by decide) (fun _ => ?_) (fun h9 => (h9 (by decide)).elim)
  exact law_end C0 hAl hbA H locs ls _ _ (by decide) (by decide) hS (lv_sub hl [0, 4] rfl)
set_option maxHeartbeats 4000000 in
set_option maxRecDepth 100000 in
theorem law_case_22 {p : Program} {l : Launch} {e : Env} {s : State} {m : MethodId} {below : List Frame} {meth : Method} {c : Code} {b : Nat} {xs : Nat → Int32} {A : Nat → Prop} {D : va_G} {g : Nat → ClassId} (x : Nat) (mm : Nat) (oa : Nat) (tp : Nat) (n : Nat) (dr : Nat) (x_images : Nat) (x_kept : Nat) (rd : Nat) (st : Nat) (tl : Nat) (rg : Nat) (sv : Nat) (oc : Nat) (x_tried : Nat) (lf : Nat) (x_stoppedWays : Nat) (x_stoppedWorth : Nat) (x_withinWorth : Nat) (n_kind : Nat) (n_pay : Nat) (n_name : Nat) (n_ways : Nat) (n_held : Nat) (n_targets : Nat) (n_weights : Nat) (m_s : Nat) (m_spare : Nat) (m_kept : Nat) (m_undone : Nat) (m_triedWay : Nat) (m_isKept : Nat) (m_tape : Nat) (m_letters : Nat) (m_choice : Nat) (m_row : Nat) (m_up : Nat) (m_low : Nat) (m_m : Nat) (m_bestUp : Nat) (m_bestLow : Nat) (m_replyUp : Nat) (m_replyLow : Nat) (m_worthUp : Nat) (m_worthLow : Nat) (m_bestWay : Nat) (m_told : Nat) (hst : l.stackTraces = false) (C0 : lw_At p s m meth c b 6 xs) (hA : ∀ q : Nat, s.heap.size ≤ q → A q) (hAl : ∀ q : Nat, A q → s.heap.size ≤ q) (hbA : ¬ A b) (hK : va_K D vwCl (TY g) s) (hZ : ZT A s s.heap) : ∀ (H : Heap) (locs : List Loc) (ls : Array Slot), va_P D vwCl [(x, .inr (11, [.ref tp, .ref n, .ref dr, .ref x_images, .ref x_kept, .ref rd, .ref st, .ref tl, .ref rg, .ref sv, .ref oc, .ref x_tried, .ref lf, .int 0, .ref x_stoppedWays, .ref x_stoppedWorth, .int 0, .ref x_withinWorth])), (n, .inr (2, [.int 0, .ref n_kind, .ref n_pay, .ref n_name, .ref n_ways, .ref n_held, .ref n_targets, .ref n_weights])), (mm, .inr (12, (.int 0 :: .ref m_s :: .ref m_spare :: .ref m_kept :: .ref m_undone :: .ref m_triedWay :: .ref m_isKept :: .int 0 :: .ref m_tape :: .int 0 :: .int 0 :: .int 0 :: .int 0 :: .int 0 :: .int 0 :: .int 0 :: .int 0 :: .int 0 :: .ref m_letters :: .int 0 :: .ref m_choice :: .ref m_row :: .ref m_up :: .ref m_low :: .ref m_m :: .ref m_bestUp :: .ref m_bestLow :: .ref m_replyUp :: .ref m_replyLow :: .ref m_worthUp :: .ref m_worthLow :: .ref m_bestWay :: .int 0 :: .ref m_told :: .int 0 :: []))), (m_s, .inl (g 0, 193, .inl (fun _ => 0)))] H → va_D A [(x, .inr (11, [.ref tp, .ref n, .ref dr, .ref x_images, .ref x_kept, .ref rd, .ref st, .ref tl, .ref rg, .ref sv, .ref oc, .ref x_tried, .ref lf, .int 0, .ref x_stoppedWays, .ref x_stoppedWorth, .int 0, .ref x_withinWorth])), (n, .inr (2, [.int 0, .ref n_kind, .ref n_pay, .ref n_name, .ref n_ways, .ref n_held, .ref n_targets, .ref n_weights])), (mm, .inr (12, (.int 0 :: .ref m_s :: .ref m_spare :: .ref m_kept :: .ref m_undone :: .ref m_triedWay :: .ref m_isKept :: .int 0 :: .ref m_tape :: .int 0 :: .int 0 :: .int 0 :: .int 0 :: .int 0 :: .int 0 :: .int 0 :: .int 0 :: .int 0 :: .ref m_letters :: .int 0 :: .ref m_choice :: .ref m_row :: .ref m_up :: .ref m_low :: .ref m_m :: .ref m_bestUp :: .ref m_bestLow :: .ref m_replyUp :: .ref m_replyLow :: .ref m_worthUp :: .ref m_worthLow :: .ref m_bestWay :: .int 0 :: .ref m_told :: .int 0 :: []))), (m_s, .inl (g 0, 193, .inl (fun _ => 0)))] → va_S A s.heap H locs → lv_has ls 8 [(4, .int 0), (3, .ref oa), (2, .ref mm), (1, .ref x), (0, .ref b)] → W p l e room_1 s m #[Value.ref b] below meth c H locs 114 6056 (lw_Z below #[Value.ref b] s) (F0 m 1084 ls []) := by
  obtain ⟨hx, hb, hr, hml, hown, hts0, hX, hbl, hlocks, hgv⟩ := id C0
  have hts : ∀ w ∈ wsL_law, w.before _ s = true := fun w h => hts0 w (wsL_law_in w h)
  intro H locs ls hP hD hS hl
  refine lv_aload_n hx hb dL_law_1084 rfl (lv_at hl 3 rfl) ?_
  refine lv_aload_n hx hb dL_law_1085 rfl (lv_at hl 4 rfl) ?_
  refine lv_iload hx hb dL_law_1086 (lv_at hl 0 rfl) ?_
  refine lv_iconst (v := 1) hx hb dL_law_1088 (by decide) ?_
  refine lv_iadd hx hb dL_law_1089 ?_
  refine tz_i (y := 1) (by decide +kernel) ?_
  refine va_sld hx hb hX hbl hbA hS (tz_in (by decide +kernel)) dL_law_1090 ?_
  refine tz_i (y := xs 1) (congrArg xs (by decide +kernel)) ?_
  refine lv_aload_n hx hb dL_law_1091 rfl (lv_at hl 4 rfl) ?_
  refine lv_iload hx hb dL_law_1092 (lv_at hl 0 rfl) ?_
  refine lv_iconst (v := 2) hx hb dL_law_1094 (by decide) ?_
  refine lv_iadd hx hb dL_law_1095 ?_
  refine tz_i (y := 2) (by decide +kernel) ?_
  refine va_sld hx hb hX hbl hbA hS (tz_in (by decide +kernel)) dL_law_1096 ?_
  refine tz_i (y := xs 2) (congrArg xs (by decide +kernel)) ?_
  refine lv_aload_n hx hb dL_law_1097 rfl (lv_at hl 1 rfl) ?_
  have hPc := hP.sub (ws' := [(x, .inr (11, [.ref tp, .ref n, .ref dr, .ref x_images, .ref x_kept, .ref rd, .ref st, .ref tl, .ref rg, .ref sv, .ref oc, .ref x_tried, .ref lf, .int 0, .ref x_stoppedWays, .ref x_stoppedWorth, .int 0, .ref x_withinWorth])), (n, .inr (2, [.int 0, .ref n_kind, .ref n_pay, .ref n_name, .ref n_ways, .ref n_held, .ref n_targets, .ref n_weights]))]) [0, 1] rfl
  have hDc := hD.sub (ws' := [(x, .inr (11, [.ref tp, .ref n, .ref dr, .ref x_images, .ref x_kept, .ref rd, .ref st, .ref tl, .ref rg, .ref sv, .ref oc, .ref x_tried, .ref lf, .int 0, .ref x_stoppedWays, .ref x_stoppedWorth, .int 0, .ref x_withinWorth])), (n, .inr (2, [.int 0, .ref n_kind, .ref n_pay, .ref n_name, .ref n_ways, .ref n_held, .ref n_targets, .ref n_weights]))]) [0, 1] (by decide) rfl
  have hFc := va_free (wc := [(x, .inr (11, [.ref tp, .ref n, .ref dr, .ref x_images, .ref x_kept, .ref rd, .ref st, .ref tl, .ref rg, .ref sv, .ref oc, .ref x_tried, .ref lf, .int 0, .ref x_stoppedWays, .ref x_stoppedWorth, .int 0, .ref x_withinWorth])), (n, .inr (2, [.int 0, .ref n_kind, .ref n_pay, .ref n_name, .ref n_ways, .ref n_held, .ref n_targets, .ref n_weights]))]) hD hS hA [0, 1] rfl
  refine vx_calli (vx_runSX (As := [.ref x, .int (xs 1), .int (xs 2), .ref oa]) (rest := []) ⟨hx, hb, hml, hown, hts⟩ (c_L_moves l hst D g H.size x (xs 1) (xs 2) oa tp n dr x_images x_kept rd st tl rg sv oc x_tried lf x_stoppedWays x_stoppedWorth x_withinWorth n_kind n_pay n_name n_ways n_held n_targets n_weights) (vx_cwSW 4 hts (tz_gS qw_742 qw_743 qw_607 qw_744) rfl rfl rfl (by decide +kernel) ⟨Nat.le_of_ble_eq_true rfl, Nat.le_of_ble_eq_true rfl⟩) ⟨tz_blX, tz_preX hPc hK hDc (hZ.kept hS hFc)⟩ rfl rfl hl.1 rfl (lv_room (Nat.le_of_ble_eq_true rfl)) dL_law_1098 ⟨Nat.le_of_ble_eq_true rfl, Nat.le_of_ble_eq_true rfl⟩) hS (fun q _ h => hFc q h) hFc (fun q _ h => hFc q h) (fun E ce q9 u t H1 locs1 ht hvm hpx hBX hz1 hk1 hS hce hcv hcl => hpx.elim) (fun r_728 u t H1 locs ht hvm hw hB hz1 hk1 hS => ?_)
  obtain ⟨hP, hD⟩ := va_join (wr := [(mm, .inr (12, (.int 0 :: .ref m_s :: .ref m_spare :: .ref m_kept :: .ref m_undone :: .ref m_triedWay :: .ref m_isKept :: .int 0 :: .ref m_tape :: .int 0 :: .int 0 :: .int 0 :: .int 0 :: .int 0 :: .int 0 :: .int 0 :: .int 0 :: .int 0 :: .ref m_letters :: .int 0 :: .ref m_choice :: .ref m_row :: .ref m_up :: .ref m_low :: .ref m_m :: .ref m_bestUp :: .ref m_bestLow :: .ref m_replyUp :: .ref m_replyLow :: .ref m_worthUp :: .ref m_worthLow :: .ref m_bestWay :: .int 0 :: .ref m_told :: .int 0 :: []))), (m_s, .inl (g 0, 193, .inl (fun _ => 0)))]) (w1 := []) hP hD [0, 1] [2, 3] rfl rfl (by decide) (by decide) hk1 hFc tz_nilP tz_nilD
  generalize H1 = H at hP hS ⊢
  have hP : va_P D vwCl [(mm, .inr (12, (.int 0 :: .ref m_s :: .ref m_spare :: .ref m_kept :: .ref m_undone :: .ref m_triedWay :: .ref m_isKept :: .int 0 :: .ref m_tape :: .int 0 :: .int 0 :: .int 0 :: .int 0 :: .int 0 :: .int 0 :: .int 0 :: .int 0 :: .int 0 :: .ref m_letters :: .int 0 :: .ref m_choice :: .ref m_row :: .ref m_up :: .ref m_low :: .ref m_m :: .ref m_bestUp :: .ref m_bestLow :: .ref m_replyUp :: .ref m_replyLow :: .ref m_worthUp :: .ref m_worthLow :: .ref m_bestWay :: .int 0 :: .ref m_told :: .int 0 :: []))), (m_s, .inl (g 0, 193, .inl (fun _ => 0)))] H := hP
  have hD : va_D A [(mm, .inr (12, (.int 0 :: .ref m_s :: .ref m_spare :: .ref m_kept :: .ref m_undone :: .ref m_triedWay :: .ref m_isKept :: .int 0 :: .ref m_tape :: .int 0 :: .int 0 :: .int 0 :: .int 0 :: .int 0 :: .int 0 :: .int 0 :: .int 0 :: .int 0 :: .ref m_letters :: .int 0 :: .ref m_choice :: .ref m_row :: .ref m_up :: .ref m_low :: .ref m_m :: .ref m_bestUp :: .ref m_bestLow :: .ref m_replyUp :: .ref m_replyLow :: .ref m_worthUp :: .ref m_worthLow :: .ref m_bestWay :: .int 0 :: .ref m_told :: .int 0 :: []))), (m_s, .inl (g 0, 193, .inl (fun _ => 0)))] := hD
  subst hw
  refine W.widen (k := 115) (n := 6062) (by decide) (by decide) ?_
  refine lv_istore (lv' := [(5, .int 1), (4, .int 0), (3, .ref oa), (2, .ref mm), (1, .ref x), (0, .ref b)]) hx hb dL_law_1101 hl (by decide) rfl (fun ls hl => ?_)
  refine lv_aload_n hx hb dL_law_1103 rfl (lv_at hl 3 rfl) ?_
  refine lv_aload_n hx hb dL_law_1104 rfl (lv_at hl 5 rfl) ?_
  refine lv_iload hx hb dL_law_1105 (lv_at hl 1 rfl) ?_
  refine lv_iconst (v := 1) hx hb dL_law_1107 (by decide) ?_
  refine lv_iadd hx hb dL_law_1108 ?_
  refine tz_i (y := 1) (by decide +kernel) ?_
  refine va_sld hx hb hX hbl hbA hS (tz_in (by decide +kernel)) dL_law_1109 ?_
  refine tz_i (y := xs 1) (congrArg xs (by decide +kernel)) ?_
  refine lv_aload_n hx hb dL_law_1110 rfl (lv_at hl 5 rfl) ?_
  refine lv_iload hx hb dL_law_1111 (lv_at hl 1 rfl) ?_
  refine lv_iconst (v := 2) hx hb dL_law_1113 (by decide) ?_
  refine lv_iadd hx hb dL_law_1114 ?_
  refine tz_i (y := 2) (by decide +kernel) ?_
  refine va_sld hx hb hX hbl hbA hS (tz_in (by decide +kernel)) dL_law_1115 ?_
  refine tz_i (y := xs 2) (congrArg xs (by decide +kernel)) ?_
  have hPc := hP.sub (ws' := [(mm, .inr (12, (.int 0 :: .ref m_s :: .ref m_spare :: .ref m_kept :: .ref m_undone :: .ref m_triedWay :: .ref m_isKept :: .int 0 :: .ref m_tape :: .int 0 :: .int 0 :: .int 0 :: .int 0 :: .int 0 :: .int 0 :: .int 0 :: .int 0 :: .int 0 :: .ref m_letters :: .int 0 :: .ref m_choice :: .ref m_row :: .ref m_up :: .ref m_low :: .ref m_m :: .ref m_bestUp :: .ref m_bestLow :: .ref m_replyUp :: .ref m_replyLow :: .ref m_worthUp :: .ref m_worthLow :: .ref m_bestWay :: .int 0 :: .ref m_told :: .int 0 :: []))), (m_s, .inl (g 0, 193, .inl (fun _ => 0)))]) [0, 1] rfl
  have hDc := hD.sub (ws' := [(mm, .inr (12, (.int 0 :: .ref m_s :: .ref m_spare :: .ref m_kept :: .ref m_undone :: .ref m_triedWay :: .ref m_isKept :: .int 0 :: .ref m_tape :: .int 0 :: .int 0 :: .int 0 :: .int 0 :: .int 0 :: .int 0 :: .int 0 :: .int 0 :: .int 0 :: .ref m_letters :: .int 0 :: .ref m_choice :: .ref m_row :: .ref m_up :: .ref m_low :: .ref m_m :: .ref m_bestUp :: .ref m_bestLow :: .ref m_replyUp :: .ref m_replyLow :: .ref m_worthUp :: .ref m_worthLow :: .ref m_bestWay :: .int 0 :: .ref m_told :: .int 0 :: []))), (m_s, .inl (g 0, 193, .inl (fun _ => 0)))]) [0, 1] (by decide) rfl
  have hFc := va_free (wc := [(mm, .inr (12, (.int 0 :: .ref m_s :: .ref m_spare :: .ref m_kept :: .ref m_undone :: .ref m_triedWay :: .ref m_isKept :: .int 0 :: .ref m_tape :: .int 0 :: .int 0 :: .int 0 :: .int 0 :: .int 0 :: .int 0 :: .int 0 :: .int 0 :: .int 0 :: .ref m_letters :: .int 0 :: .ref m_choice :: .ref m_row :: .ref m_up :: .ref m_low :: .ref m_m :: .ref m_bestUp :: .ref m_bestLow :: .ref m_replyUp :: .ref m_replyLow :: .ref m_worthUp :: .ref m_worthLow :: .ref m_bestWay :: .int 0 :: .ref m_told :: .int 0 :: []))), (m_s, .inl (g 0, 193, .inl (fun _ => 0)))]) hD hS hA [0, 1] rfl
  refine va_calll (va_runV (As := [.int (xs 1), .int (xs 2)]) (rest := []) ⟨hx, hb, hml, hown, hts⟩ (c_X12_moves l D g H.size mm (xs 1) (xs 2) 0 m_s m_spare m_kept m_undone m_triedWay m_isKept 0 m_tape 0 0 0 0 0 0 0 0 0 m_letters m_choice m_row m_up m_low m_m m_bestUp m_bestLow m_replyUp m_replyLow m_worthUp m_worthLow m_bestWay 0 m_told 0) (cwV 2 hts (tz_gV qw_745 qw_746 qw_747 qw_253 qw_748) rfl rfl rfl (by decide +kernel) ⟨Nat.le_of_ble_eq_true rfl, Nat.le_of_ble_eq_true rfl⟩) ⟨tz_blQ, va_recv hK hPc (ci := 12) (q0 := 0) rfl rfl, tz_preQ hPc hK hDc⟩ rfl rfl hl.1 rfl (lv_room (Nat.le_of_ble_eq_true rfl)) dL_law_1116 ⟨Nat.le_of_ble_eq_true rfl, Nat.le_of_ble_eq_true rfl⟩) hS (fun q _ h => hFc q h) hFc (fun r_729 u t H1 locs ht hvm hw hB hz1 hk1 hS => ?_)
  obtain ⟨hP1, hD1⟩ := hB
  rw [ht] at hP1
  obtain ⟨hP, hD⟩ := va_join (wr := []) (w1 := [(mm, .inr (12, (.int 1 :: .ref m_s :: .ref m_spare :: .ref m_kept :: .ref m_undone :: .ref m_triedWay :: .ref m_isKept :: .int 0 :: .ref m_tape :: .int 0 :: .int 0 :: .int 0 :: .int 0 :: .int 0 :: .int 0 :: .int 0 :: .int 0 :: .int 0 :: .ref m_letters :: .int 0 :: .ref m_choice :: .ref m_row :: .ref m_up :: .ref m_low :: .ref m_m :: .ref m_bestUp :: .ref m_bestLow :: .ref m_replyUp :: .ref m_replyLow :: .ref m_worthUp :: .ref m_worthLow :: .ref m_bestWay :: .int 0 :: .ref m_told :: .int 0 :: []))), (m_s, .inl (g 0, 193, .inl (fun _ => 0)))]) hP hD [0, 1] [] rfl rfl (by decide) (by decide) hk1 hFc hP1 hD1
  generalize H1 = H at hP hS ⊢
  have hP : va_P D vwCl [(mm, .inr (12, (.int 1 :: .ref m_s :: .ref m_spare :: .ref m_kept :: .ref m_undone :: .ref m_triedWay :: .ref m_isKept :: .int 0 :: .ref m_tape :: .int 0 :: .int 0 :: .int 0 :: .int 0 :: .int 0 :: .int 0 :: .int 0 :: .int 0 :: .int 0 :: .ref m_letters :: .int 0 :: .ref m_choice :: .ref m_row :: .ref m_up :: .ref m_low :: .ref m_m :: .ref m_bestUp :: .ref m_bestLow :: .ref m_replyUp :: .ref m_replyLow :: .ref m_worthUp :: .ref m_worthLow :: .ref m_bestWay :: .int 0 :: .ref m_told :: .int 0 :: []))), (m_s, .inl (g 0, 193, .inl (fun _ => 0)))] H := hP
  have hD : va_D A [(mm, .inr (12, (.int 1 :: .ref m_s :: .ref m_spare :: .ref m_kept :: .ref m_undone :: .ref m_triedWay :: .ref m_isKept :: .int 0 :: .ref m_tape :: .int 0 :: .int 0 :: .int 0 :: .int 0 :: .int 0 :: .int 0 :: .int 0 :: .int 0 :: .int 0 :: .ref m_letters :: .int 0 :: .ref m_choice :: .ref m_row :: .ref m_up :: .ref m_low :: .ref m_m :: .ref m_bestUp :: .ref m_bestLow :: .ref m_replyUp :: .ref m_replyLow :: .ref m_worthUp :: .ref m_worthLow :: .ref m_bestWay :: .int 0 :: .ref m_told :: .int 0 :: []))), (m_s, .inl (g 0, 193, .inl (fun _ => 0)))] := hD
  subst hw
  refine lv_lstore (lv' := [(6, .long 0), (5, .int 1), (4, .int 0), (3, .ref oa), (2, .ref mm), (1, .ref x), (0, .ref b)]) hx hb dL_law_1119 hl (by decide) rfl (fun ls hl => ?_)
  refine lv_aload_n hx hb dL_law_1121 rfl (lv_at hl 4 rfl) ?_
  have hPc := hP.sub (ws' := [(mm, .inr (12, (.int 1 :: .ref m_s :: .ref m_spare :: .ref m_kept :: .ref m_undone :: .ref m_triedWay :: .ref m_isKept :: .int 0 :: .ref m_tape :: .int 0 :: .int 0 :: .int 0 :: .int 0 :: .int 0 :: .int 0 :: .int 0 :: .int 0 :: .int 0 :: .ref m_letters :: .int 0 :: .ref m_choice :: .ref m_row :: .ref m_up :: .ref m_low :: .ref m_m :: .ref m_bestUp :: .ref m_bestLow :: .ref m_replyUp :: .ref m_replyLow :: .ref m_worthUp :: .ref m_worthLow :: .ref m_bestWay :: .int 0 :: .ref m_told :: .int 0 :: [])))]) [0] rfl
  refine vp_callSi (va_Run.run (va_runV (As := []) (rest := []) ⟨hx, hb, hml, hown, hts⟩ (c_X12_thrown l D g mm m_s m_spare m_kept m_undone m_triedWay m_isKept 0 m_tape 0 0 0 0 0 0 0 0 0 m_letters 0 m_choice m_row m_up m_low m_m m_bestUp m_bestLow m_replyUp m_replyLow m_worthUp m_worthLow m_bestWay 0 m_told 0) (cwV 0 hts (tz_gV qw_613 qw_614 qw_615 qw_253 qw_616) rfl rfl rfl (by decide +kernel) ⟨Nat.le_of_ble_eq_true rfl, Nat.le_of_ble_eq_true rfl⟩) ⟨tz_blS, va_recv hK hPc (ci := 12) (q0 := 0) rfl rfl, tz_preS hPc hK⟩ rfl rfl hl.1 rfl (lv_room (Nat.le_of_ble_eq_true rfl)) dL_law_1122 ⟨Nat.le_of_ble_eq_true rfl, Nat.le_of_ble_eq_true rfl⟩)) (fun r_730 hw => ?_)
  subst hw
  refine lv_iload hx hb dL_law_1125 (lv_at hl 1 rfl) ?_
  refine lv_icmp_eq (tgt := 1132) hx hb dL_law_1127 (by decide) (fun _ => ?_) (fun h9 => (h9 (by decide)).elim)
  refine lv_iload hx hb dL_law_1132 (lv_at hl 1 rfl) ?_
  refine lv_if_ne (tgt := 1148) hx hb dL_law_1134 (by decide) (fun _ => ?_) (fun h9 => absurd h9 (by decide))
  refine lv_goto (tgt := 1475) hx hb dL_law_1148 (by decide) ?_
  exact law_end C0 hAl hbA H locs ls _ _ (by decide) (by decide) hS (lv_sub hl [2, 6] rfl)
set_option maxHeartbeats 4000000 in
set_option maxRecDepth 100000 in
theorem law_case_23 {p : Program} {l : Launch} {e : Env} {s : State} {m : MethodId} {below : List Frame} {meth : Method} {c : Code} {b : Nat} {xs : Nat → Int32} {A : Nat → Prop} {D : va_G} {g : Nat → ClassId} (x : Nat) (mm : Nat) (oa : Nat) (tp : Nat) (n : Nat) (dr : Nat) (x_images : Nat) (x_kept : Nat) (rd : Nat) (st : Nat) (tl : Nat) (rg : Nat) (sv : Nat) (oc : Nat) (x_tried : Nat) (lf : Nat) (x_stoppedWays : Nat) (x_stoppedWorth : Nat) (x_withinWorth : Nat) (n_kind : Nat) (n_pay : Nat) (n_name : Nat) (n_ways : Nat) (n_held : Nat) (n_targets : Nat) (n_weights : Nat) (co : Nat) (sv_keep : Nat) (sv_scaled : Nat) (eq : Nat) (co_place : Nat) (eq_rows : Nat) (eq_right : Nat) (rr : Nat → Nat) (oc_plan : Nat) (wo : Nat) (le : Nat) (oc_reach : Nat) (oc_ringBits : Nat) (wo_part : Nat) (le_part : Nat) (m_s : Nat) (m_spare : Nat) (m_kept : Nat) (m_undone : Nat) (m_triedWay : Nat) (m_isKept : Nat) (m_tape : Nat) (m_letters : Nat) (m_choice : Nat) (m_row : Nat) (m_up : Nat) (m_low : Nat) (m_m : Nat) (m_bestUp : Nat) (m_bestLow : Nat) (m_replyUp : Nat) (m_replyLow : Nat) (m_worthUp : Nat) (m_worthLow : Nat) (m_bestWay : Nat) (m_told : Nat) (hst : l.stackTraces = false) (C0 : lw_At p s m meth c b 6 xs) (hA : ∀ q : Nat, s.heap.size ≤ q → A q) (hAl : ∀ q : Nat, A q → s.heap.size ≤ q) (hbA : ¬ A b) (hK : va_K D vwCl (TY g) s) (hZ : ZT A s s.heap) : ∀ (H : Heap) (locs : List Loc) (ls : Array Slot), va_P D vwCl [(x, .inr (11, [.ref tp, .ref n, .ref dr, .ref x_images, .ref x_kept, .ref rd, .ref st, .ref tl, .ref rg, .ref sv, .ref oc, .ref x_tried, .ref lf, .int 0, .ref x_stoppedWays, .ref x_stoppedWorth, .int 0, .ref x_withinWorth])), (n, .inr (2, [.int 0, .ref n_kind, .ref n_pay, .ref n_name, .ref n_ways, .ref n_held, .ref n_targets, .ref n_weights])), (rg, .inr (5, [.ref n])), (sv, .inr (6, [.ref n, .ref co, .ref sv_keep, .ref sv_scaled])), (co, .inr (0, [.ref n, .ref eq, .ref co_place])), (eq, .inr (1, [.ref eq_rows, .ref eq_right, .long 0])), (eq_right, .inl (g 1, 8, .inr (.inl (fun _ => 0)))), (eq_rows, .inl (g 5, 8, .inr (.inr (.inr (.inr (fun i => if i < 8 then some (rr i) else none)))))), ((rr 0), .inl (g 1, 8, .inr (.inl (fun _ => 0)))), ((rr 1), .inl (g 1, 8, .inr (.inl (fun _ => 0)))), ((rr 2), .inl (g 1, 8, .inr (.inl (fun _ => 0)))), ((rr 3), .inl (g 1, 8, .inr (.inl (fun _ => 0)))), ((rr 4), .inl (g 1, 8, .inr (.inl (fun _ => 0)))), ((rr 5), .inl (g 1, 8, .inr (.inl (fun _ => 0)))), ((rr 6), .inl (g 1, 8, .inr (.inl (fun _ => 0)))), ((rr 7), .inl (g 1, 8, .inr (.inl (fun _ => 0)))), (oc, .inr (3, [.ref n, .ref sv, .ref oc_plan, .ref wo, .ref le, .ref oc_reach, .ref oc_ringBits, .int 0, .int 0, .int 0])), (wo, .inr (10, [.ref wo_part, .long 1])), (le, .inr (10, [.ref le_part, .long 1])), (mm, .inr (12, (.int 0 :: .ref m_s :: .ref m_spare :: .ref m_kept :: .ref m_undone :: .ref m_triedWay :: .ref m_isKept :: .int 0 :: .ref m_tape :: .int 0 :: .int 0 :: .int 0 :: .int 0 :: .int 0 :: .int 0 :: .int 0 :: .int 0 :: .int 0 :: .ref m_letters :: .int 0 :: .ref m_choice :: .ref m_row :: .ref m_up :: .ref m_low :: .ref m_m :: .ref m_bestUp :: .ref m_bestLow :: .ref m_replyUp :: .ref m_replyLow :: .ref m_worthUp :: .ref m_worthLow :: .ref m_bestWay :: .int 0 :: .ref m_told :: .int 0 :: []))), (m_s, .inl (g 0, 193, .inl (fun _ => 0)))] H → va_D A [(x, .inr (11, [.ref tp, .ref n, .ref dr, .ref x_images, .ref x_kept, .ref rd, .ref st, .ref tl, .ref rg, .ref sv, .ref oc, .ref x_tried, .ref lf, .int 0, .ref x_stoppedWays, .ref x_stoppedWorth, .int 0, .ref x_withinWorth])), (n, .inr (2, [.int 0, .ref n_kind, .ref n_pay, .ref n_name, .ref n_ways, .ref n_held, .ref n_targets, .ref n_weights])), (rg, .inr (5, [.ref n])), (sv, .inr (6, [.ref n, .ref co, .ref sv_keep, .ref sv_scaled])), (co, .inr (0, [.ref n, .ref eq, .ref co_place])), (eq, .inr (1, [.ref eq_rows, .ref eq_right, .long 0])), (eq_right, .inl (g 1, 8, .inr (.inl (fun _ => 0)))), (eq_rows, .inl (g 5, 8, .inr (.inr (.inr (.inr (fun i => if i < 8 then some (rr i) else none)))))), ((rr 0), .inl (g 1, 8, .inr (.inl (fun _ => 0)))), ((rr 1), .inl (g 1, 8, .inr (.inl (fun _ => 0)))), ((rr 2), .inl (g 1, 8, .inr (.inl (fun _ => 0)))), ((rr 3), .inl (g 1, 8, .inr (.inl (fun _ => 0)))), ((rr 4), .inl (g 1, 8, .inr (.inl (fun _ => 0)))), ((rr 5), .inl (g 1, 8, .inr (.inl (fun _ => 0)))), ((rr 6), .inl (g 1, 8, .inr (.inl (fun _ => 0)))), ((rr 7), .inl (g 1, 8, .inr (.inl (fun _ => 0)))), (oc, .inr (3, [.ref n, .ref sv, .ref oc_plan, .ref wo, .ref le, .ref oc_reach, .ref oc_ringBits, .int 0, .int 0, .int 0])), (wo, .inr (10, [.ref wo_part, .long 1])), (le, .inr (10, [.ref le_part, .long 1])), (mm, .inr (12, (.int 0 :: .ref m_s :: .ref m_spare :: .ref m_kept :: .ref m_undone :: .ref m_triedWay :: .ref m_isKept :: .int 0 :: .ref m_tape :: .int 0 :: .int 0 :: .int 0 :: .int 0 :: .int 0 :: .int 0 :: .int 0 :: .int 0 :: .int 0 :: .ref m_letters :: .int 0 :: .ref m_choice :: .ref m_row :: .ref m_up :: .ref m_low :: .ref m_m :: .ref m_bestUp :: .ref m_bestLow :: .ref m_replyUp :: .ref m_replyLow :: .ref m_worthUp :: .ref m_worthLow :: .ref m_bestWay :: .int 0 :: .ref m_told :: .int 0 :: []))), (m_s, .inl (g 0, 193, .inl (fun _ => 0)))] → va_S A s.heap H locs → lv_has ls 8 [(4, .int 0), (3, .ref oa), (2, .ref mm), (1, .ref x), (0, .ref b)] → W p l e room_1 s m #[Value.ref b] below meth c H locs 114 6056 (lw_Z below #[Value.ref b] s) (F0 m 1151 ls []) := by
  obtain ⟨hx, hb, hr, hml, hown, hts0, hX, hbl, hlocks, hgv⟩ := id C0
  have hts : ∀ w ∈ wsL_law, w.before _ s = true := fun w h => hts0 w (wsL_law_in w h)
  intro H locs ls hP hD hS hl
  refine lv_aload_n hx hb dL_law_1151 rfl (lv_at hl 3 rfl) ?_
  refine lv_aload_n hx hb dL_law_1152 rfl (lv_at hl 4 rfl) ?_
  refine lv_iload hx hb dL_law_1153 (lv_at hl 0 rfl) ?_
  refine lv_iconst (v := 1) hx hb dL_law_1155 (by decide) ?_
  refine lv_iadd hx hb dL_law_1156 ?_
  refine tz_i (y := 1) (by decide +kernel) ?_
  refine va_sld hx hb hX hbl hbA hS (tz_in (by decide +kernel)) dL_law_1157 ?_
  refine tz_i (y := xs 1) (congrArg xs (by decide +kernel)) ?_
  refine lv_aload_n hx hb dL_law_1158 rfl (lv_at hl 4 rfl) ?_
  refine lv_iload hx hb dL_law_1159 (lv_at hl 0 rfl) ?_
  refine lv_iconst (v := 2) hx hb dL_law_1161 (by decide) ?_
  refine lv_iadd hx hb dL_law_1162 ?_
  refine tz_i (y := 2) (by decide +kernel) ?_
  refine va_sld hx hb hX hbl hbA hS (tz_in (by decide +kernel)) dL_law_1163 ?_
  refine tz_i (y := xs 2) (congrArg xs (by decide +kernel)) ?_
  have hPc := hP.sub (ws' := [(x, .inr (11, [.ref tp, .ref n, .ref dr, .ref x_images, .ref x_kept, .ref rd, .ref st, .ref tl, .ref rg, .ref sv, .ref oc, .ref x_tried, .ref lf, .int 0, .ref x_stoppedWays, .ref x_stoppedWorth, .int 0, .ref x_withinWorth])), (oc, .inr (3, [.ref n, .ref sv, .ref oc_plan, .ref wo, .ref le, .ref oc_reach, .ref oc_ringBits, .int 0, .int 0, .int 0])), (sv, .inr (6, [.ref n, .ref co, .ref sv_keep, .ref sv_scaled])), (co, .inr (0, [.ref n, .ref eq, .ref co_place])), (n, .inr (2, [.int 0, .ref n_kind, .ref n_pay, .ref n_name, .ref n_ways, .ref n_held, .ref n_targets, .ref n_weights])), (wo, .inr (10, [.ref wo_part, .long 1])), (le, .inr (10, [.ref le_part, .long 1])), (eq, .inr (1, [.ref eq_rows, .ref eq_right, .long 0])), (eq_right, .inl (g 1, 8, .inr (.inl (fun _ => 0)))), (eq_rows, .inl (g 5, 8, .inr (.inr (.inr (.inr (fun i => if i < 8 then some (rr i) else none)))))), ((rr 0), .inl (g 1, 8, .inr (.inl (fun _ => 0)))), ((rr 1), .inl (g 1, 8, .inr (.inl (fun _ => 0)))), ((rr 2), .inl (g 1, 8, .inr (.inl (fun _ => 0)))), ((rr 3), .inl (g 1, 8, .inr (.inl (fun _ => 0)))), ((rr 4), .inl (g 1, 8, .inr (.inl (fun _ => 0)))), ((rr 5), .inl (g 1, 8, .inr (.inl (fun _ => 0)))), ((rr 6), .inl (g 1, 8, .inr (.inl (fun _ => 0)))), ((rr 7), .inl (g 1, 8, .inr (.inl (fun _ => 0)))), (rg, .inr (5, [.ref n]))]) [0, 16, 3, 4, 1, 17, 18, 5, 6, 7, 8, 9, 10, 11, 12, 13, 14, 15, 2] rfl
  have hDc := hD.sub (ws' := [(x, .inr (11, [.ref tp, .ref n, .ref dr, .ref x_images, .ref x_kept, .ref rd, .ref st, .ref tl, .ref rg, .ref sv, .ref oc, .ref x_tried, .ref lf, .int 0, .ref x_stoppedWays, .ref x_stoppedWorth, .int 0, .ref x_withinWorth])), (oc, .inr (3, [.ref n, .ref sv, .ref oc_plan, .ref wo, .ref le, .ref oc_reach, .ref oc_ringBits, .int 0, .int 0, .int 0])), (sv, .inr (6, [.ref n, .ref co, .ref sv_keep, .ref sv_scaled])), (co, .inr (0, [.ref n, .ref eq, .ref co_place])), (n, .inr (2, [.int 0, .ref n_kind, .ref n_pay, .ref n_name, .ref n_ways, .ref n_held, .ref n_targets, .ref n_weights])), (wo, .inr (10, [.ref wo_part, .long 1])), (le, .inr (10, [.ref le_part, .long 1])), (eq, .inr (1, [.ref eq_rows, .ref eq_right, .long 0])), (eq_right, .inl (g 1, 8, .inr (.inl (fun _ => 0)))), (eq_rows, .inl (g 5, 8, .inr (.inr (.inr (.inr (fun i => if i < 8 then some (rr i) else none)))))), ((rr 0), .inl (g 1, 8, .inr (.inl (fun _ => 0)))), ((rr 1), .inl (g 1, 8, .inr (.inl (fun _ => 0)))), ((rr 2), .inl (g 1, 8, .inr (.inl (fun _ => 0)))), ((rr 3), .inl (g 1, 8, .inr (.inl (fun _ => 0)))), ((rr 4), .inl (g 1, 8, .inr (.inl (fun _ => 0)))), ((rr 5), .inl (g 1, 8, .inr (.inl (fun _ => 0)))), ((rr 6), .inl (g 1, 8, .inr (.inl (fun _ => 0)))), ((rr 7), .inl (g 1, 8, .inr (.inl (fun _ => 0)))), (rg, .inr (5, [.ref n]))]) [0, 16, 3, 4, 1, 17, 18, 5, 6, 7, 8, 9, 10, 11, 12, 13, 14, 15, 2] (by decide) rfl
  have hFc := va_free (wc := [(x, .inr (11, [.ref tp, .ref n, .ref dr, .ref x_images, .ref x_kept, .ref rd, .ref st, .ref tl, .ref rg, .ref sv, .ref oc, .ref x_tried, .ref lf, .int 0, .ref x_stoppedWays, .ref x_stoppedWorth, .int 0, .ref x_withinWorth])), (oc, .inr (3, [.ref n, .ref sv, .ref oc_plan, .ref wo, .ref le, .ref oc_reach, .ref oc_ringBits, .int 0, .int 0, .int 0])), (sv, .inr (6, [.ref n, .ref co, .ref sv_keep, .ref sv_scaled])), (co, .inr (0, [.ref n, .ref eq, .ref co_place])), (n, .inr (2, [.int 0, .ref n_kind, .ref n_pay, .ref n_name, .ref n_ways, .ref n_held, .ref n_targets, .ref n_weights])), (wo, .inr (10, [.ref wo_part, .long 1])), (le, .inr (10, [.ref le_part, .long 1])), (eq, .inr (1, [.ref eq_rows, .ref eq_right, .long 0])), (eq_right, .inl (g 1, 8, .inr (.inl (fun _ => 0)))), (eq_rows, .inl (g 5, 8, .inr (.inr (.inr (.inr (fun i => if i < 8 then some (rr i) else none)))))), ((rr 0), .inl (g 1, 8, .inr (.inl (fun _ => 0)))), ((rr 1), .inl (g 1, 8, .inr (.inl (fun _ => 0)))), ((rr 2), .inl (g 1, 8, .inr (.inl (fun _ => 0)))), ((rr 3), .inl (g 1, 8, .inr (.inl (fun _ => 0)))), ((rr 4), .inl (g 1, 8, .inr (.inl (fun _ => 0)))), ((rr 5), .inl (g 1, 8, .inr (.inl (fun _ => 0)))), ((rr 6), .inl (g 1, 8, .inr (.inl (fun _ => 0)))), ((rr 7), .inl (g 1, 8, .inr (.inl (fun _ => 0)))), (rg, .inr (5, [.ref n]))]) hD hS hA [0, 16, 3, 4, 1, 17, 18, 5, 6, 7, 8, 9, 10, 11, 12, 13, 14, 15, 2] rfl
  refine va_calli (va_runV (As := [.int (xs 1), .int (xs 2)]) (rest := []) ⟨hx, hb, hml, hown, hts⟩ (c_X11_sets l D g H.size x (xs 1) (xs 2) tp n dr x_images x_kept rd st tl rg sv oc x_tried lf x_stoppedWays x_stoppedWorth x_withinWorth oc_plan wo le oc_reach oc_ringBits co sv_keep sv_scaled eq co_place n_kind n_pay n_name n_ways n_held n_targets n_weights wo_part 1 le_part 1 eq_rows eq_right 0 (fun _ => 0) rr (fun _ => 0) (fun _ => 0) (fun _ => 0) (fun _ => 0) (fun _ => 0) (fun _ => 0) (fun _ => 0) (fun _ => 0)) (cwV 2 hts (tz_gV qw_749 qw_750 qw_751 qw_165 qw_752) rfl rfl rfl (by decide +kernel) ⟨Nat.le_of_ble_eq_true rfl, Nat.le_of_ble_eq_true rfl⟩) ⟨tz_blQ, va_recv hK hPc (ci := 11) (q0 := 0) rfl rfl, tz_preQ hPc hK hDc⟩ rfl rfl hl.1 rfl (lv_room (Nat.le_of_ble_eq_true rfl)) dL_law_1164 ⟨Nat.le_of_ble_eq_true rfl, Nat.le_of_ble_eq_true rfl⟩) hS (fun q _ h => hFc q h) hFc (fun r_735 u t H1 locs ht hvm hw hB hz1 hk1 hS => ?_)
  obtain ⟨hP, hD⟩ := va_join (wr := [(mm, .inr (12, (.int 0 :: .ref m_s :: .ref m_spare :: .ref m_kept :: .ref m_undone :: .ref m_triedWay :: .ref m_isKept :: .int 0 :: .ref m_tape :: .int 0 :: .int 0 :: .int 0 :: .int 0 :: .int 0 :: .int 0 :: .int 0 :: .int 0 :: .int 0 :: .ref m_letters :: .int 0 :: .ref m_choice :: .ref m_row :: .ref m_up :: .ref m_low :: .ref m_m :: .ref m_bestUp :: .ref m_bestLow :: .ref m_replyUp :: .ref m_replyLow :: .ref m_worthUp :: .ref m_worthLow :: .ref m_bestWay :: .int 0 :: .ref m_told :: .int 0 :: []))), (m_s, .inl (g 0, 193, .inl (fun _ => 0)))]) (w1 := []) hP hD [0, 16, 3, 4, 1, 17, 18, 5, 6, 7, 8, 9, 10, 11, 12, 13, 14, 15, 2] [19, 20] rfl rfl (by decide) (by decide) hk1 hFc tz_nilP tz_nilD
  generalize H1 = H at hP hS ⊢
  have hP : va_P D vwCl [(mm, .inr (12, (.int 0 :: .ref m_s :: .ref m_spare :: .ref m_kept :: .ref m_undone :: .ref m_triedWay :: .ref m_isKept :: .int 0 :: .ref m_tape :: .int 0 :: .int 0 :: .int 0 :: .int 0 :: .int 0 :: .int 0 :: .int 0 :: .int 0 :: .int 0 :: .ref m_letters :: .int 0 :: .ref m_choice :: .ref m_row :: .ref m_up :: .ref m_low :: .ref m_m :: .ref m_bestUp :: .ref m_bestLow :: .ref m_replyUp :: .ref m_replyLow :: .ref m_worthUp :: .ref m_worthLow :: .ref m_bestWay :: .int 0 :: .ref m_told :: .int 0 :: []))), (m_s, .inl (g 0, 193, .inl (fun _ => 0)))] H := hP
  have hD : va_D A [(mm, .inr (12, (.int 0 :: .ref m_s :: .ref m_spare :: .ref m_kept :: .ref m_undone :: .ref m_triedWay :: .ref m_isKept :: .int 0 :: .ref m_tape :: .int 0 :: .int 0 :: .int 0 :: .int 0 :: .int 0 :: .int 0 :: .int 0 :: .int 0 :: .int 0 :: .ref m_letters :: .int 0 :: .ref m_choice :: .ref m_row :: .ref m_up :: .ref m_low :: .ref m_m :: .ref m_bestUp :: .ref m_bestLow :: .ref m_replyUp :: .ref m_replyLow :: .ref m_worthUp :: .ref m_worthLow :: .ref m_bestWay :: .int 0 :: .ref m_told :: .int 0 :: []))), (m_s, .inl (g 0, 193, .inl (fun _ => 0)))] := hD
  have hw_736 := hw
  refine lv_aload_n hx hb dL_law_1167 rfl (lv_at hl 2 rfl) ?_
  refine lv_aload_n hx hb dL_law_1168 rfl (lv_at hl 4 rfl) ?_
  refine lv_iload hx hb dL_law_1169 (lv_at hl 0 rfl) ?_
  refine lv_iconst (v := 1) hx hb dL_law_1171 (by decide) ?_
  refine lv_iadd hx hb dL_law_1172 ?_
  refine tz_i (y := 1) (by decide +kernel) ?_
  refine va_sld hx hb hX hbl hbA hS (tz_in (by decide +kernel)) dL_law_1173 ?_
  refine tz_i (y := xs 1) (congrArg xs (by decide +kernel)) ?_
  refine lv_aload_n hx hb dL_law_1174 rfl (lv_at hl 4 rfl) ?_
  refine lv_iload hx hb dL_law_1175 (lv_at hl 0 rfl) ?_
  refine lv_iconst (v := 2) hx hb dL_law_1177 (by decide) ?_
  refine lv_iadd hx hb dL_law_1178 ?_
  refine tz_i (y := 2) (by decide +kernel) ?_
  refine va_sld hx hb hX hbl hbA hS (tz_in (by decide +kernel)) dL_law_1179 ?_
  refine tz_i (y := xs 2) (congrArg xs (by decide +kernel)) ?_
  have hPc := hP.sub (ws' := [(mm, .inr (12, (.int 0 :: .ref m_s :: .ref m_spare :: .ref m_kept :: .ref m_undone :: .ref m_triedWay :: .ref m_isKept :: .int 0 :: .ref m_tape :: .int 0 :: .int 0 :: .int 0 :: .int 0 :: .int 0 :: .int 0 :: .int 0 :: .int 0 :: .int 0 :: .ref m_letters :: .int 0 :: .ref m_choice :: .ref m_row :: .ref m_up :: .ref m_low :: .ref m_m :: .ref m_bestUp :: .ref m_bestLow :: .ref m_replyUp :: .ref m_replyLow :: .ref m_worthUp :: .ref m_worthLow :: .ref m_bestWay :: .int 0 :: .ref m_told :: .int 0 :: []))), (m_s, .inl (g 0, 193, .inl (fun _ => 0)))]) [0, 1] rfl
  have hDc := hD.sub (ws' := [(mm, .inr (12, (.int 0 :: .ref m_s :: .ref m_spare :: .ref m_kept :: .ref m_undone :: .ref m_triedWay :: .ref m_isKept :: .int 0 :: .ref m_tape :: .int 0 :: .int 0 :: .int 0 :: .int 0 :: .int 0 :: .int 0 :: .int 0 :: .int 0 :: .int 0 :: .ref m_letters :: .int 0 :: .ref m_choice :: .ref m_row :: .ref m_up :: .ref m_low :: .ref m_m :: .ref m_bestUp :: .ref m_bestLow :: .ref m_replyUp :: .ref m_replyLow :: .ref m_worthUp :: .ref m_worthLow :: .ref m_bestWay :: .int 0 :: .ref m_told :: .int 0 :: []))), (m_s, .inl (g 0, 193, .inl (fun _ => 0)))]) [0, 1] (by decide) rfl
  have hFc := va_free (wc := [(mm, .inr (12, (.int 0 :: .ref m_s :: .ref m_spare :: .ref m_kept :: .ref m_undone :: .ref m_triedWay :: .ref m_isKept :: .int 0 :: .ref m_tape :: .int 0 :: .int 0 :: .int 0 :: .int 0 :: .int 0 :: .int 0 :: .int 0 :: .int 0 :: .int 0 :: .ref m_letters :: .int 0 :: .ref m_choice :: .ref m_row :: .ref m_up :: .ref m_low :: .ref m_m :: .ref m_bestUp :: .ref m_bestLow :: .ref m_replyUp :: .ref m_replyLow :: .ref m_worthUp :: .ref m_worthLow :: .ref m_bestWay :: .int 0 :: .ref m_told :: .int 0 :: []))), (m_s, .inl (g 0, 193, .inl (fun _ => 0)))]) hD hS hA [0, 1] rfl
  refine va_calli (va_runV (As := [.int (xs 1), .int (xs 2)]) (rest := [.int r_735]) ⟨hx, hb, hml, hown, hts⟩ (c_X12_sets l D g H.size mm (xs 1) (xs 2) 0 m_s m_spare m_kept m_undone m_triedWay m_isKept 0 m_tape 0 0 0 0 0 0 0 0 0 m_letters m_choice m_row m_up m_low m_m m_bestUp m_bestLow m_replyUp m_replyLow m_worthUp m_worthLow m_bestWay 0 m_told 0) (cwV 2 hts (tz_gV qw_753 qw_754 qw_755 qw_253 qw_756) rfl rfl rfl (by decide +kernel) ⟨Nat.le_of_ble_eq_true rfl, Nat.le_of_ble_eq_true rfl⟩) ⟨tz_blQ, va_recv hK hPc (ci := 12) (q0 := 0) rfl rfl, tz_preQ hPc hK hDc⟩ rfl rfl hl.1 rfl (lv_room (Nat.le_of_ble_eq_true rfl)) dL_law_1180 ⟨Nat.le_of_ble_eq_true rfl, Nat.le_of_ble_eq_true rfl⟩) hS (fun q _ h => hFc q h) hFc (fun r_737 u t H1 locs ht hvm hw hB hz1 hk1 hS => ?_)
  obtain ⟨hP, hD⟩ := va_join (wr := []) (w1 := []) hP hD [0, 1] [] rfl rfl (by decide) (by decide) hk1 hFc tz_nilP tz_nilD
  generalize H1 = H at hP hS ⊢
  have hP : va_P D vwCl [] H := hP
  have hD : va_D A [] := hD
  have hw_738 := hw
  refine lv_icmp_eq (tgt := 1475) hx hb dL_law_1183 (by decide) (fun _ => ?_) (fun h9 => (h9 (tz_eq hw_736 hw_738)).elim)
  exact law_end C0 hAl hbA H locs ls _ _ (by decide) (by decide) hS (lv_sub hl [0, 4] rfl)
