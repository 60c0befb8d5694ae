theorem mw_539 : Cond.methodLink RL 21 yX11_feed ∈ gtbl := mg (List.mem_of_getElem? (i := 539) (by decide +kernel)) (by decide +kernel)
theorem mw_540 : Cond.instanceMethod yX11_feed ∈ gtbl := mg (List.mem_of_getElem? (i := 540) (by decide +kernel)) (by decide +kernel)
theorem ms_X11_feed : Cond.selects RX11 yX11_feed yX11_feed ∈ gtbl := mg (List.mem_of_getElem? (i := 541) (by decide +kernel)) (by decide +kernel)
theorem mw_542 : Cond.code yX11_feed cX11_feed 6 (some .int) ∈ gtbl := mg (List.mem_of_getElem? (i := 542) (by decide +kernel)) (by decide +kernel)
theorem mw_1553 : Cond.methodLink RL 25 yX12_feed ∈ gtbl := mg (List.mem_of_getElem? (i := 1553) (by decide +kernel)) (by decide +kernel)
theorem mw_1554 : Cond.instanceMethod yX12_feed ∈ gtbl := mg (List.mem_of_getElem? (i := 1554) (by decide +kernel)) (by decide +kernel)
theorem ms_X12_feed : Cond.selects RX12 yX12_feed yX12_feed ∈ gtbl := mg (List.mem_of_getElem? (i := 1555) (by decide +kernel)) (by decide +kernel)
theorem mw_1556 : Cond.code yX12_feed cX12_feed 8 (some .int) ∈ gtbl := mg (List.mem_of_getElem? (i := 1556) (by decide +kernel)) (by decide +kernel)
theorem mw_717 : Cond.methodLink RL 31 yX11_fault ∈ gtbl := mg (List.mem_of_getElem? (i := 717) (by decide +kernel)) (by decide +kernel)
theorem mw_718 : Cond.instanceMethod yX11_fault ∈ gtbl := mg (List.mem_of_getElem? (i := 718) (by decide +kernel)) (by decide +kernel)
theorem ms_X11_fault : Cond.selects RX11 yX11_fault yX11_fault ∈ gtbl := mg (List.mem_of_getElem? (i := 719) (by decide +kernel)) (by decide +kernel)
theorem mw_720 : Cond.code yX11_fault cX11_fault 2 (some .int) ∈ gtbl := mg (List.mem_of_getElem? (i := 720) (by decide +kernel)) (by decide +kernel)
theorem mw_1675 : Cond.methodLink RL 34 yX12_fault ∈ gtbl := mg (List.mem_of_getElem? (i := 1675) (by decide +kernel)) (by decide +kernel)
theorem mw_1676 : Cond.instanceMethod yX12_fault ∈ gtbl := mg (List.mem_of_getElem? (i := 1676) (by decide +kernel)) (by decide +kernel)
theorem ms_X12_fault : Cond.selects RX12 yX12_fault yX12_fault ∈ gtbl := mg (List.mem_of_getElem? (i := 1677) (by decide +kernel)) (by decide +kernel)
theorem mw_1678 : Cond.code yX12_fault cX12_fault 2 (some .int) ∈ gtbl := mg (List.mem_of_getElem? (i := 1678) (by decide +kernel)) (by decide +kernel)
theorem mw_721 : Cond.methodLink RL 35 yX11_named ∈ gtbl := mg (List.mem_of_getElem? (i := 721) (by decide +kernel)) (by decide +kernel)
theorem mw_722 : Cond.instanceMethod yX11_named ∈ gtbl := mg (List.mem_of_getElem? (i := 722) (by decide +kernel)) (by decide +kernel)
theorem ms_X11_named : Cond.selects RX11 yX11_named yX11_named ∈ gtbl := mg (List.mem_of_getElem? (i := 723) (by decide +kernel)) (by decide +kernel)
theorem mw_724 : Cond.code yX11_named cX11_named 3 (some .int) ∈ gtbl := mg (List.mem_of_getElem? (i := 724) (by decide +kernel)) (by decide +kernel)
theorem mw_1679 : Cond.methodLink RL 38 yX12_named ∈ gtbl := mg (List.mem_of_getElem? (i := 1679) (by decide +kernel)) (by decide +kernel)
theorem mw_1680 : Cond.instanceMethod yX12_named ∈ gtbl := mg (List.mem_of_getElem? (i := 1680) (by decide +kernel)) (by decide +kernel)
theorem ms_X12_named : Cond.selects RX12 yX12_named yX12_named ∈ gtbl := mg (List.mem_of_getElem? (i := 1681) (by decide +kernel)) (by decide +kernel)
theorem mw_1682 : Cond.code yX12_named cX12_named 3 (some .int) ∈ gtbl := mg (List.mem_of_getElem? (i := 1682) (by decide +kernel)) (by decide +kernel)
theorem mw_726 : Cond.methodLink RL 49 yX11_act ∈ gtbl := mg (List.mem_of_getElem? (i := 726) (by decide +kernel)) (by decide +kernel)
theorem mw_727 : Cond.instanceMethod yX11_act ∈ gtbl := mg (List.mem_of_getElem? (i := 727) (by decide +kernel)) (by decide +kernel)
theorem ms_X11_act : Cond.selects RX11 yX11_act yX11_act ∈ gtbl := mg (List.mem_of_getElem? (i := 728) (by decide +kernel)) (by decide +kernel)
theorem mw_729 : Cond.code yX11_act cX11_act 3 (some .int) ∈ gtbl := mg (List.mem_of_getElem? (i := 729) (by decide +kernel)) (by decide +kernel)
theorem mw_1699 : Cond.methodLink RL 52 yX12_act ∈ gtbl := mg (List.mem_of_getElem? (i := 1699) (by decide +kernel)) (by decide +kernel)
theorem mw_1700 : Cond.instanceMethod yX12_act ∈ gtbl := mg (List.mem_of_getElem? (i := 1700) (by decide +kernel)) (by decide +kernel)
theorem ms_X12_act : Cond.selects RX12 yX12_act yX12_act ∈ gtbl := mg (List.mem_of_getElem? (i := 1701) (by decide +kernel)) (by decide +kernel)
theorem mw_1702 : Cond.code yX12_act cX12_act 3 (some .int) ∈ gtbl := mg (List.mem_of_getElem? (i := 1702) (by decide +kernel)) (by decide +kernel)
theorem mw_742 : Cond.methodLink RL 53 yX11_grain ∈ gtbl := mg (List.mem_of_getElem? (i := 742) (by decide +kernel)) (by decide +kernel)
theorem mw_743 : Cond.instanceMethod yX11_grain ∈ gtbl := mg (List.mem_of_getElem? (i := 743) (by decide +kernel)) (by decide +kernel)
theorem ms_X11_grain : Cond.selects RX11 yX11_grain yX11_grain ∈ gtbl := mg (List.mem_of_getElem? (i := 744) (by decide +kernel)) (by decide +kernel)
theorem mw_745 : Cond.code yX11_grain cX11_grain 3 (some .int) ∈ gtbl := mg (List.mem_of_getElem? (i := 745) (by decide +kernel)) (by decide +kernel)
theorem mw_1707 : Cond.methodLink RL 56 yX12_grain ∈ gtbl := mg (List.mem_of_getElem? (i := 1707) (by decide +kernel)) (by decide +kernel)
theorem mw_1708 : Cond.instanceMethod yX12_grain ∈ gtbl := mg (List.mem_of_getElem? (i := 1708) (by decide +kernel)) (by decide +kernel)
theorem ms_X12_grain : Cond.selects RX12 yX12_grain yX12_grain ∈ gtbl := mg (List.mem_of_getElem? (i := 1709) (by decide +kernel)) (by decide +kernel)
theorem mw_1710 : Cond.code yX12_grain cX12_grain 3 (some .int) ∈ gtbl := mg (List.mem_of_getElem? (i := 1710) (by decide +kernel)) (by decide +kernel)
theorem mw_758 : Cond.methodLink RL 57 yX11_law ∈ gtbl := mg (List.mem_of_getElem? (i := 758) (by decide +kernel)) (by decide +kernel)
theorem mw_759 : Cond.instanceMethod yX11_law ∈ gtbl := mg (List.mem_of_getElem? (i := 759) (by decide +kernel)) (by decide +kernel)
theorem ms_X11_law : Cond.selects RX11 yX11_law yX11_law ∈ gtbl := mg (List.mem_of_getElem? (i := 760) (by decide +kernel)) (by decide +kernel)
theorem mw_761 : Cond.code yX11_law cX11_law 3 (some .long) ∈ gtbl := mg (List.mem_of_getElem? (i := 761) (by decide +kernel)) (by decide +kernel)
theorem mw_1719 : Cond.methodLink RL 61 yX12_law ∈ gtbl := mg (List.mem_of_getElem? (i := 1719) (by decide +kernel)) (by decide +kernel)
theorem mw_1720 : Cond.instanceMethod yX12_law ∈ gtbl := mg (List.mem_of_getElem? (i := 1720) (by decide +kernel)) (by decide +kernel)
theorem ms_X12_law : Cond.selects RX12 yX12_law yX12_law ∈ gtbl := mg (List.mem_of_getElem? (i := 1721) (by decide +kernel)) (by decide +kernel)
theorem mw_1722 : Cond.code yX12_law cX12_law 5 (some .long) ∈ gtbl := mg (List.mem_of_getElem? (i := 1722) (by decide +kernel)) (by decide +kernel)
theorem mw_829 : Cond.methodLink RL 62 yX11_stage ∈ gtbl := mg (List.mem_of_getElem? (i := 829) (by decide +kernel)) (by decide +kernel)
theorem mw_830 : Cond.instanceMethod yX11_stage ∈ gtbl := mg (List.mem_of_getElem? (i := 830) (by decide +kernel)) (by decide +kernel)
theorem ms_X11_stage : Cond.selects RX11 yX11_stage yX11_stage ∈ gtbl := mg (List.mem_of_getElem? (i := 831) (by decide +kernel)) (by decide +kernel)
theorem mw_832 : Cond.code yX11_stage cX11_stage 2 (some .int) ∈ gtbl := mg (List.mem_of_getElem? (i := 832) (by decide +kernel)) (by decide +kernel)
theorem mw_1765 : Cond.methodLink RL 65 yX12_stage ∈ gtbl := mg (List.mem_of_getElem? (i := 1765) (by decide +kernel)) (by decide +kernel)
theorem mw_1766 : Cond.instanceMethod yX12_stage ∈ gtbl := mg (List.mem_of_getElem? (i := 1766) (by decide +kernel)) (by decide +kernel)
theorem ms_X12_stage : Cond.selects RX12 yX12_stage yX12_stage ∈ gtbl := mg (List.mem_of_getElem? (i := 1767) (by decide +kernel)) (by decide +kernel)
theorem mw_1768 : Cond.code yX12_stage cX12_stage 2 (some .int) ∈ gtbl := mg (List.mem_of_getElem? (i := 1768) (by decide +kernel)) (by decide +kernel)
theorem mw_845 : Cond.methodLink RL 66 yX11_change ∈ gtbl := mg (List.mem_of_getElem? (i := 845) (by decide +kernel)) (by decide +kernel)
theorem mw_846 : Cond.instanceMethod yX11_change ∈ gtbl := mg (List.mem_of_getElem? (i := 846) (by decide +kernel)) (by decide +kernel)
theorem ms_X11_change : Cond.selects RX11 yX11_change yX11_change ∈ gtbl := mg (List.mem_of_getElem? (i := 847) (by decide +kernel)) (by decide +kernel)
theorem mw_848 : Cond.code yX11_change cX11_change 3 (some .int) ∈ gtbl := mg (List.mem_of_getElem? (i := 848) (by decide +kernel)) (by decide +kernel)
theorem mw_1777 : Cond.methodLink RL 69 yX12_change ∈ gtbl := mg (List.mem_of_getElem? (i := 1777) (by decide +kernel)) (by decide +kernel)
theorem mw_1778 : Cond.instanceMethod yX12_change ∈ gtbl := mg (List.mem_of_getElem? (i := 1778) (by decide +kernel)) (by decide +kernel)
theorem ms_X12_change : Cond.selects RX12 yX12_change yX12_change ∈ gtbl := mg (List.mem_of_getElem? (i := 1779) (by decide +kernel)) (by decide +kernel)
theorem mw_1780 : Cond.code yX12_change cX12_change 5 (some .int) ∈ gtbl := mg (List.mem_of_getElem? (i := 1780) (by decide +kernel)) (by decide +kernel)
theorem mw_862 : Cond.methodLink RL 70 yX11_push ∈ gtbl := mg (List.mem_of_getElem? (i := 862) (by decide +kernel)) (by decide +kernel)
theorem mw_863 : Cond.instanceMethod yX11_push ∈ gtbl := mg (List.mem_of_getElem? (i := 863) (by decide +kernel)) (by decide +kernel)
theorem ms_X11_push : Cond.selects RX11 yX11_push yX11_push ∈ gtbl := mg (List.mem_of_getElem? (i := 864) (by decide +kernel)) (by decide +kernel)
theorem mw_865 : Cond.code yX11_push cX11_push 2 (some .int) ∈ gtbl := mg (List.mem_of_getElem? (i := 865) (by decide +kernel)) (by decide +kernel)
theorem mw_1781 : Cond.methodLink RL 73 yX12_push ∈ gtbl := mg (List.mem_of_getElem? (i := 1781) (by decide +kernel)) (by decide +kernel)
theorem mw_1782 : Cond.instanceMethod yX12_push ∈ gtbl := mg (List.mem_of_getElem? (i := 1782) (by decide +kernel)) (by decide +kernel)
theorem ms_X12_push : Cond.selects RX12 yX12_push yX12_push ∈ gtbl := mg (List.mem_of_getElem? (i := 1783) (by decide +kernel)) (by decide +kernel)
theorem mw_1784 : Cond.code yX12_push cX12_push 2 (some .int) ∈ gtbl := mg (List.mem_of_getElem? (i := 1784) (by decide +kernel)) (by decide +kernel)
theorem mw_877 : Cond.methodLink RL 74 yX11_go ∈ gtbl := mg (List.mem_of_getElem? (i := 877) (by decide +kernel)) (by decide +kernel)
theorem mw_878 : Cond.instanceMethod yX11_go ∈ gtbl := mg (List.mem_of_getElem? (i := 878) (by decide +kernel)) (by decide +kernel)
theorem ms_X11_go : Cond.selects RX11 yX11_go yX11_go ∈ gtbl := mg (List.mem_of_getElem? (i := 879) (by decide +kernel)) (by decide +kernel)
theorem mw_880 : Cond.code yX11_go cX11_go 2 (some .int) ∈ gtbl := mg (List.mem_of_getElem? (i := 880) (by decide +kernel)) (by decide +kernel)
theorem mw_1789 : Cond.methodLink RL 77 yX12_go ∈ gtbl := mg (List.mem_of_getElem? (i := 1789) (by decide +kernel)) (by decide +kernel)
theorem mw_1790 : Cond.instanceMethod yX12_go ∈ gtbl := mg (List.mem_of_getElem? (i := 1790) (by decide +kernel)) (by decide +kernel)
theorem ms_X12_go : Cond.selects RX12 yX12_go yX12_go ∈ gtbl := mg (List.mem_of_getElem? (i := 1791) (by decide +kernel)) (by decide +kernel)
theorem mw_1792 : Cond.code yX12_go cX12_go 3 (some .int) ∈ gtbl := mg (List.mem_of_getElem? (i := 1792) (by decide +kernel)) (by decide +kernel)
theorem mw_980 : Cond.methodLink RL 78 yX11_ahead ∈ gtbl := mg (List.mem_of_getElem? (i := 980) (by decide +kernel)) (by decide +kernel)
theorem mw_981 : Cond.instanceMethod yX11_ahead ∈ gtbl := mg (List.mem_of_getElem? (i := 981) (by decide +kernel)) (by decide +kernel)
theorem ms_X11_ahead : Cond.selects RX11 yX11_ahead yX11_ahead ∈ gtbl := mg (List.mem_of_getElem? (i := 982) (by decide +kernel)) (by decide +kernel)
theorem mw_983 : Cond.code yX11_ahead cX11_ahead 4 (some .int) ∈ gtbl := mg (List.mem_of_getElem? (i := 983) (by decide +kernel)) (by decide +kernel)
theorem mw_1840 : Cond.methodLink RL 82 yX12_ahead ∈ gtbl := mg (List.mem_of_getElem? (i := 1840) (by decide +kernel)) (by decide +kernel)
theorem mw_1841 : Cond.instanceMethod yX12_ahead ∈ gtbl := mg (List.mem_of_getElem? (i := 1841) (by decide +kernel)) (by decide +kernel)
theorem ms_X12_ahead : Cond.selects RX12 yX12_ahead yX12_ahead ∈ gtbl := mg (List.mem_of_getElem? (i := 1842) (by decide +kernel)) (by decide +kernel)
theorem mw_1843 : Cond.code yX12_ahead cX12_ahead 4 (some .int) ∈ gtbl := mg (List.mem_of_getElem? (i := 1843) (by decide +kernel)) (by decide +kernel)
theorem mw_992 : Cond.methodLink RL 83 yX11_flour ∈ gtbl := mg (List.mem_of_getElem? (i := 992) (by decide +kernel)) (by decide +kernel)
theorem mw_993 : Cond.instanceMethod yX11_flour ∈ gtbl := mg (List.mem_of_getElem? (i := 993) (by decide +kernel)) (by decide +kernel)
theorem ms_X11_flour : Cond.selects RX11 yX11_flour yX11_flour ∈ gtbl := mg (List.mem_of_getElem? (i := 994) (by decide +kernel)) (by decide +kernel)
theorem mw_995 : Cond.code yX11_flour cX11_flour 3 (some .int) ∈ gtbl := mg (List.mem_of_getElem? (i := 995) (by decide +kernel)) (by decide +kernel)
theorem mw_1852 : Cond.methodLink RL 86 yX12_flour ∈ gtbl := mg (List.mem_of_getElem? (i := 1852) (by decide +kernel)) (by decide +kernel)
theorem mw_1853 : Cond.instanceMethod yX12_flour ∈ gtbl := mg (List.mem_of_getElem? (i := 1853) (by decide +kernel)) (by decide +kernel)
theorem ms_X12_flour : Cond.selects RX12 yX12_flour yX12_flour ∈ gtbl := mg (List.mem_of_getElem? (i := 1854) (by decide +kernel)) (by decide +kernel)
theorem mw_1855 : Cond.code yX12_flour cX12_flour 3 (some .int) ∈ gtbl := mg (List.mem_of_getElem? (i := 1855) (by decide +kernel)) (by decide +kernel)
theorem mw_996 : Cond.methodLink RL 87 yX11_bill ∈ gtbl := mg (List.mem_of_getElem? (i := 996) (by decide +kernel)) (by decide +kernel)
theorem mw_997 : Cond.instanceMethod yX11_bill ∈ gtbl := mg (List.mem_of_getElem? (i := 997) (by decide +kernel)) (by decide +kernel)
theorem ms_X11_bill : Cond.selects RX11 yX11_bill yX11_bill ∈ gtbl := mg (List.mem_of_getElem? (i := 998) (by decide +kernel)) (by decide +kernel)
theorem mw_999 : Cond.code yX11_bill cX11_bill 6 (some .int) ∈ gtbl := mg (List.mem_of_getElem? (i := 999) (by decide +kernel)) (by decide +kernel)
theorem mw_1856 : Cond.methodLink RL 90 yX12_bill ∈ gtbl := mg (List.mem_of_getElem? (i := 1856) (by decide +kernel)) (by decide +kernel)
theorem mw_1857 : Cond.instanceMethod yX12_bill ∈ gtbl := mg (List.mem_of_getElem? (i := 1857) (by decide +kernel)) (by decide +kernel)
theorem ms_X12_bill : Cond.selects RX12 yX12_bill yX12_bill ∈ gtbl := mg (List.mem_of_getElem? (i := 1858) (by decide +kernel)) (by decide +kernel)
theorem mw_1859 : Cond.code yX12_bill cX12_bill 6 (some .int) ∈ gtbl := mg (List.mem_of_getElem? (i := 1859) (by decide +kernel)) (by decide +kernel)
theorem mw_1022 : Cond.methodLink RL 91 yX11_seats ∈ gtbl := mg (List.mem_of_getElem? (i := 1022) (by decide +kernel)) (by decide +kernel)
theorem mw_1023 : Cond.instanceMethod yX11_seats ∈ gtbl := mg (List.mem_of_getElem? (i := 1023) (by decide +kernel)) (by decide +kernel)
theorem ms_X11_seats : Cond.selects RX11 yX11_seats yX11_seats ∈ gtbl := mg (List.mem_of_getElem? (i := 1024) (by decide +kernel)) (by decide +kernel)
theorem mw_1025 : Cond.code yX11_seats cX11_seats 5 (some .int) ∈ gtbl := mg (List.mem_of_getElem? (i := 1025) (by decide +kernel)) (by decide +kernel)
theorem mw_1878 : Cond.methodLink RL 94 yX12_seats ∈ gtbl := mg (List.mem_of_getElem? (i := 1878) (by decide +kernel)) (by decide +kernel)
theorem mw_1879 : Cond.instanceMethod yX12_seats ∈ gtbl := mg (List.mem_of_getElem? (i := 1879) (by decide +kernel)) (by decide +kernel)
theorem ms_X12_seats : Cond.selects RX12 yX12_seats yX12_seats ∈ gtbl := mg (List.mem_of_getElem? (i := 1880) (by decide +kernel)) (by decide +kernel)
theorem mw_1881 : Cond.code yX12_seats cX12_seats 7 (some .int) ∈ gtbl := mg (List.mem_of_getElem? (i := 1881) (by decide +kernel)) (by decide +kernel)
theorem mw_1042 : Cond.methodLink RL 95 yX11_enough ∈ gtbl := mg (List.mem_of_getElem? (i := 1042) (by decide +kernel)) (by decide +kernel)
theorem mw_1043 : Cond.instanceMethod yX11_enough ∈ gtbl := mg (List.mem_of_getElem? (i := 1043) (by decide +kernel)) (by decide +kernel)
theorem ms_X11_enough : Cond.selects RX11 yX11_enough yX11_enough ∈ gtbl := mg (List.mem_of_getElem? (i := 1044) (by decide +kernel)) (by decide +kernel)
theorem mw_1045 : Cond.code yX11_enough cX11_enough 6 (some .int) ∈ gtbl := mg (List.mem_of_getElem? (i := 1045) (by decide +kernel)) (by decide +kernel)
theorem mw_1886 : Cond.methodLink RL 98 yX12_enough ∈ gtbl := mg (List.mem_of_getElem? (i := 1886) (by decide +kernel)) (by decide +kernel)
theorem mw_1887 : Cond.instanceMethod yX12_enough ∈ gtbl := mg (List.mem_of_getElem? (i := 1887) (by decide +kernel)) (by decide +kernel)
theorem ms_X12_enough : Cond.selects RX12 yX12_enough yX12_enough ∈ gtbl := mg (List.mem_of_getElem? (i := 1888) (by decide +kernel)) (by decide +kernel)
theorem mw_1889 : Cond.code yX12_enough cX12_enough 7 (some .int) ∈ gtbl := mg (List.mem_of_getElem? (i := 1889) (by decide +kernel)) (by decide +kernel)
theorem mw_1057 : Cond.methodLink RL 99 yX11_span ∈ gtbl := mg (List.mem_of_getElem? (i := 1057) (by decide +kernel)) (by decide +kernel)
theorem mw_1058 : Cond.instanceMethod yX11_span ∈ gtbl := mg (List.mem_of_getElem? (i := 1058) (by decide +kernel)) (by decide +kernel)
theorem ms_X11_span : Cond.selects RX11 yX11_span yX11_span ∈ gtbl := mg (List.mem_of_getElem? (i := 1059) (by decide +kernel)) (by decide +kernel)
theorem mw_1060 : Cond.code yX11_span cX11_span 4 (some .int) ∈ gtbl := mg (List.mem_of_getElem? (i := 1060) (by decide +kernel)) (by decide +kernel)
theorem mw_1893 : Cond.methodLink RL 102 yX12_span ∈ gtbl := mg (List.mem_of_getElem? (i := 1893) (by decide +kernel)) (by decide +kernel)
theorem mw_1894 : Cond.instanceMethod yX12_span ∈ gtbl := mg (List.mem_of_getElem? (i := 1894) (by decide +kernel)) (by decide +kernel)
theorem ms_X12_span : Cond.selects RX12 yX12_span yX12_span ∈ gtbl := mg (List.mem_of_getElem? (i := 1895) (by decide +kernel)) (by decide +kernel)
theorem mw_1896 : Cond.code yX12_span cX12_span 4 (some .int) ∈ gtbl := mg (List.mem_of_getElem? (i := 1896) (by decide +kernel)) (by decide +kernel)
theorem mw_1062 : Cond.methodLink RL 103 yX11_pushFor ∈ gtbl := mg (List.mem_of_getElem? (i := 1062) (by decide +kernel)) (by decide +kernel)
theorem mw_1063 : Cond.instanceMethod yX11_pushFor ∈ gtbl := mg (List.mem_of_getElem? (i := 1063) (by decide +kernel)) (by decide +kernel)
theorem ms_X11_pushFor : Cond.selects RX11 yX11_pushFor yX11_pushFor ∈ gtbl := mg (List.mem_of_getElem? (i := 1064) (by decide +kernel)) (by decide +kernel)
theorem mw_1065 : Cond.code yX11_pushFor cX11_pushFor 4 (some .int) ∈ gtbl := mg (List.mem_of_getElem? (i := 1065) (by decide +kernel)) (by decide +kernel)
theorem mw_1897 : Cond.methodLink RL 106 yX12_pushFor ∈ gtbl := mg (List.mem_of_getElem? (i := 1897) (by decide +kernel)) (by decide +kernel)
theorem mw_1898 : Cond.instanceMethod yX12_pushFor ∈ gtbl := mg (List.mem_of_getElem? (i := 1898) (by decide +kernel)) (by decide +kernel)
theorem ms_X12_pushFor : Cond.selects RX12 yX12_pushFor yX12_pushFor ∈ gtbl := mg (List.mem_of_getElem? (i := 1899) (by decide +kernel)) (by decide +kernel)
theorem mw_1900 : Cond.code yX12_pushFor cX12_pushFor 4 (some .int) ∈ gtbl := mg (List.mem_of_getElem? (i := 1900) (by decide +kernel)) (by decide +kernel)
theorem mw_1066 : Cond.methodLink RL 107 yX11_silence ∈ gtbl := mg (List.mem_of_getElem? (i := 1066) (by decide +kernel)) (by decide +kernel)
theorem mw_1067 : Cond.instanceMethod yX11_silence ∈ gtbl := mg (List.mem_of_getElem? (i := 1067) (by decide +kernel)) (by decide +kernel)
theorem ms_X11_silence : Cond.selects RX11 yX11_silence yX11_silence ∈ gtbl := mg (List.mem_of_getElem? (i := 1068) (by decide +kernel)) (by decide +kernel)
theorem mw_1069 : Cond.code yX11_silence cX11_silence 5 (some .int) ∈ gtbl := mg (List.mem_of_getElem? (i := 1069) (by decide +kernel)) (by decide +kernel)
theorem mw_1901 : Cond.methodLink RL 110 yX12_silence ∈ gtbl := mg (List.mem_of_getElem? (i := 1901) (by decide +kernel)) (by decide +kernel)
theorem mw_1902 : Cond.instanceMethod yX12_silence ∈ gtbl := mg (List.mem_of_getElem? (i := 1902) (by decide +kernel)) (by decide +kernel)
theorem ms_X12_silence : Cond.selects RX12 yX12_silence yX12_silence ∈ gtbl := mg (List.mem_of_getElem? (i := 1903) (by decide +kernel)) (by decide +kernel)
theorem mw_1904 : Cond.code yX12_silence cX12_silence 5 (some .int) ∈ gtbl := mg (List.mem_of_getElem? (i := 1904) (by decide +kernel)) (by decide +kernel)
theorem mw_1073 : Cond.methodLink RL 111 yX11_game ∈ gtbl := mg (List.mem_of_getElem? (i := 1073) (by decide +kernel)) (by decide +kernel)
theorem mw_1074 : Cond.instanceMethod yX11_game ∈ gtbl := mg (List.mem_of_getElem? (i := 1074) (by decide +kernel)) (by decide +kernel)
theorem ms_X11_game : Cond.selects RX11 yX11_game yX11_game ∈ gtbl := mg (List.mem_of_getElem? (i := 1075) (by decide +kernel)) (by decide +kernel)
theorem mw_1076 : Cond.code yX11_game cX11_game 5 (some .int) ∈ gtbl := mg (List.mem_of_getElem? (i := 1076) (by decide +kernel)) (by decide +kernel)
theorem mw_1905 : Cond.methodLink RL 114 yX12_game ∈ gtbl := mg (List.mem_of_getElem? (i := 1905) (by decide +kernel)) (by decide +kernel)
theorem mw_1906 : Cond.instanceMethod yX12_game ∈ gtbl := mg (List.mem_of_getElem? (i := 1906) (by decide +kernel)) (by decide +kernel)
theorem ms_X12_game : Cond.selects RX12 yX12_game yX12_game ∈ gtbl := mg (List.mem_of_getElem? (i := 1907) (by decide +kernel)) (by decide +kernel)
theorem mw_1908 : Cond.code yX12_game cX12_game 5 (some .int) ∈ gtbl := mg (List.mem_of_getElem? (i := 1908) (by decide +kernel)) (by decide +kernel)
theorem mw_1077 : Cond.methodLink RL 115 yX11_rests ∈ gtbl := mg (List.mem_of_getElem? (i := 1077) (by decide +kernel)) (by decide +kernel)
theorem mw_1078 : Cond.instanceMethod yX11_rests ∈ gtbl := mg (List.mem_of_getElem? (i := 1078) (by decide +kernel)) (by decide +kernel)
theorem ms_X11_rests : Cond.selects RX11 yX11_rests yX11_rests ∈ gtbl := mg (List.mem_of_getElem? (i := 1079) (by decide +kernel)) (by decide +kernel)
theorem mw_1080 : Cond.code yX11_rests cX11_rests 6 (some .int) ∈ gtbl := mg (List.mem_of_getElem? (i := 1080) (by decide +kernel)) (by decide +kernel)
theorem mw_1909 : Cond.methodLink RL 118 yX12_rests ∈ gtbl := mg (List.mem_of_getElem? (i := 1909) (by decide +kernel)) (by decide +kernel)
theorem mw_1910 : Cond.instanceMethod yX12_rests ∈ gtbl := mg (List.mem_of_getElem? (i := 1910) (by decide +kernel)) (by decide +kernel)
theorem ms_X12_rests : Cond.selects RX12 yX12_rests yX12_rests ∈ gtbl := mg (List.mem_of_getElem? (i := 1911) (by decide +kernel)) (by decide +kernel)
theorem mw_1912 : Cond.code yX12_rests cX12_rests 4 (some .int) ∈ gtbl := mg (List.mem_of_getElem? (i := 1912) (by decide +kernel)) (by decide +kernel)
theorem mw_1090 : Cond.methodLink RL 119 yX11_rest ∈ gtbl := mg (List.mem_of_getElem? (i := 1090) (by decide +kernel)) (by decide +kernel)
theorem mw_1091 : Cond.instanceMethod yX11_rest ∈ gtbl := mg (List.mem_of_getElem? (i := 1091) (by decide +kernel)) (by decide +kernel)
theorem ms_X11_rest : Cond.selects RX11 yX11_rest yX11_rest ∈ gtbl := mg (List.mem_of_getElem? (i := 1092) (by decide +kernel)) (by decide +kernel)
theorem mw_1093 : Cond.code yX11_rest cX11_rest 7 (some .int) ∈ gtbl := mg (List.mem_of_getElem? (i := 1093) (by decide +kernel)) (by decide +kernel)
theorem mw_1925 : Cond.methodLink RL 123 yX12_rest ∈ gtbl := mg (List.mem_of_getElem? (i := 1925) (by decide +kernel)) (by decide +kernel)
theorem mw_1926 : Cond.instanceMethod yX12_rest ∈ gtbl := mg (List.mem_of_getElem? (i := 1926) (by decide +kernel)) (by decide +kernel)
theorem ms_X12_rest : Cond.selects RX12 yX12_rest yX12_rest ∈ gtbl := mg (List.mem_of_getElem? (i := 1927) (by decide +kernel)) (by decide +kernel)
theorem mw_1928 : Cond.code yX12_rest cX12_rest 5 (some .int) ∈ gtbl := mg (List.mem_of_getElem? (i := 1928) (by decide +kernel)) (by decide +kernel)
theorem mw_1094 : Cond.methodLink RL 124 yX11_dearest ∈ gtbl := mg (List.mem_of_getElem? (i := 1094) (by decide +kernel)) (by decide +kernel)
theorem mw_1095 : Cond.instanceMethod yX11_dearest ∈ gtbl := mg (List.mem_of_getElem? (i := 1095) (by decide +kernel)) (by decide +kernel)
theorem ms_X11_dearest : Cond.selects RX11 yX11_dearest yX11_dearest ∈ gtbl := mg (List.mem_of_getElem? (i := 1096) (by decide +kernel)) (by decide +kernel)
theorem mw_1097 : Cond.code yX11_dearest cX11_dearest 6 (some .int) ∈ gtbl := mg (List.mem_of_getElem? (i := 1097) (by decide +kernel)) (by decide +kernel)
theorem mw_1929 : Cond.methodLink RL 127 yX12_dearest ∈ gtbl := mg (List.mem_of_getElem? (i := 1929) (by decide +kernel)) (by decide +kernel)
theorem mw_1930 : Cond.instanceMethod yX12_dearest ∈ gtbl := mg (List.mem_of_getElem? (i := 1930) (by decide +kernel)) (by decide +kernel)
theorem ms_X12_dearest : Cond.selects RX12 yX12_dearest yX12_dearest ∈ gtbl := mg (List.mem_of_getElem? (i := 1931) (by decide +kernel)) (by decide +kernel)
theorem mw_1932 : Cond.code yX12_dearest cX12_dearest 4 (some .int) ∈ gtbl := mg (List.mem_of_getElem? (i := 1932) (by decide +kernel)) (by decide +kernel)
theorem mw_1100 : Cond.methodLink RL 128 yX11_quiet ∈ gtbl := mg (List.mem_of_getElem? (i := 1100) (by decide +kernel)) (by decide +kernel)
theorem mw_1101 : Cond.instanceMethod yX11_quiet ∈ gtbl := mg (List.mem_of_getElem? (i := 1101) (by decide +kernel)) (by decide +kernel)
theorem ms_X11_quiet : Cond.selects RX11 yX11_quiet yX11_quiet ∈ gtbl := mg (List.mem_of_getElem? (i := 1102) (by decide +kernel)) (by decide +kernel)
theorem mw_1103 : Cond.code yX11_quiet cX11_quiet 9 (some .long) ∈ gtbl := mg (List.mem_of_getElem? (i := 1103) (by decide +kernel)) (by decide +kernel)
theorem mw_1933 : Cond.methodLink RL 131 yX12_quiet ∈ gtbl := mg (List.mem_of_getElem? (i := 1933) (by decide +kernel)) (by decide +kernel)
theorem mw_1934 : Cond.instanceMethod yX12_quiet ∈ gtbl := mg (List.mem_of_getElem? (i := 1934) (by decide +kernel)) (by decide +kernel)
theorem ms_X12_quiet : Cond.selects RX12 yX12_quiet yX12_quiet ∈ gtbl := mg (List.mem_of_getElem? (i := 1935) (by decide +kernel)) (by decide +kernel)
theorem mw_1936 : Cond.code yX12_quiet cX12_quiet 13 (some .long) ∈ gtbl := mg (List.mem_of_getElem? (i := 1936) (by decide +kernel)) (by decide +kernel)
theorem mw_1105 : Cond.methodLink RL 132 yX11_see ∈ gtbl := mg (List.mem_of_getElem? (i := 1105) (by decide +kernel)) (by decide +kernel)
theorem mw_1106 : Cond.instanceMethod yX11_see ∈ gtbl := mg (List.mem_of_getElem? (i := 1106) (by decide +kernel)) (by decide +kernel)
theorem ms_X11_see : Cond.selects RX11 yX11_see yX11_see ∈ gtbl := mg (List.mem_of_getElem? (i := 1107) (by decide +kernel)) (by decide +kernel)
theorem mw_1108 : Cond.code yX11_see cX11_see 4 (some .int) ∈ gtbl := mg (List.mem_of_getElem? (i := 1108) (by decide +kernel)) (by decide +kernel)
theorem mw_1939 : Cond.methodLink RL 136 yX12_see ∈ gtbl := mg (List.mem_of_getElem? (i := 1939) (by decide +kernel)) (by decide +kernel)
theorem mw_1940 : Cond.instanceMethod yX12_see ∈ gtbl := mg (List.mem_of_getElem? (i := 1940) (by decide +kernel)) (by decide +kernel)
theorem ms_X12_see : Cond.selects RX12 yX12_see yX12_see ∈ gtbl := mg (List.mem_of_getElem? (i := 1941) (by decide +kernel)) (by decide +kernel)
theorem mw_1942 : Cond.code yX12_see cX12_see 4 (some .int) ∈ gtbl := mg (List.mem_of_getElem? (i := 1942) (by decide +kernel)) (by decide +kernel)
theorem mw_1117 : Cond.methodLink RL 137 yX11_strike ∈ gtbl := mg (List.mem_of_getElem? (i := 1117) (by decide +kernel)) (by decide +kernel)
theorem mw_1118 : Cond.instanceMethod yX11_strike ∈ gtbl := mg (List.mem_of_getElem? (i := 1118) (by decide +kernel)) (by decide +kernel)
theorem ms_X11_strike : Cond.selects RX11 yX11_strike yX11_strike ∈ gtbl := mg (List.mem_of_getElem? (i := 1119) (by decide +kernel)) (by decide +kernel)
theorem mw_1120 : Cond.code yX11_strike cX11_strike 2 (some .int) ∈ gtbl := mg (List.mem_of_getElem? (i := 1120) (by decide +kernel)) (by decide +kernel)
theorem mw_1947 : Cond.methodLink RL 140 yX12_strike ∈ gtbl := mg (List.mem_of_getElem? (i := 1947) (by decide +kernel)) (by decide +kernel)
theorem mw_1948 : Cond.instanceMethod yX12_strike ∈ gtbl := mg (List.mem_of_getElem? (i := 1948) (by decide +kernel)) (by decide +kernel)
theorem ms_X12_strike : Cond.selects RX12 yX12_strike yX12_strike ∈ gtbl := mg (List.mem_of_getElem? (i := 1949) (by decide +kernel)) (by decide +kernel)
theorem mw_1950 : Cond.code yX12_strike cX12_strike 2 (some .int) ∈ gtbl := mg (List.mem_of_getElem? (i := 1950) (by decide +kernel)) (by decide +kernel)
theorem mw_1125 : Cond.methodLink RL 141 yX11_known ∈ gtbl := mg (List.mem_of_getElem? (i := 1125) (by decide +kernel)) (by decide +kernel)
theorem mw_1126 : Cond.instanceMethod yX11_known ∈ gtbl := mg (List.mem_of_getElem? (i := 1126) (by decide +kernel)) (by decide +kernel)
theorem ms_X11_known : Cond.selects RX11 yX11_known yX11_known ∈ gtbl := mg (List.mem_of_getElem? (i := 1127) (by decide +kernel)) (by decide +kernel)
theorem mw_1128 : Cond.code yX11_known cX11_known 2 (some .boolean) ∈ gtbl := mg (List.mem_of_getElem? (i := 1128) (by decide +kernel)) (by decide +kernel)
theorem mw_1951 : Cond.methodLink RL 145 yX12_known ∈ gtbl := mg (List.mem_of_getElem? (i := 1951) (by decide +kernel)) (by decide +kernel)
theorem mw_1952 : Cond.instanceMethod yX12_known ∈ gtbl := mg (List.mem_of_getElem? (i := 1952) (by decide +kernel)) (by decide +kernel)
theorem ms_X12_known : Cond.selects RX12 yX12_known yX12_known ∈ gtbl := mg (List.mem_of_getElem? (i := 1953) (by decide +kernel)) (by decide +kernel)
theorem mw_1954 : Cond.code yX12_known cX12_known 2 (some .boolean) ∈ gtbl := mg (List.mem_of_getElem? (i := 1954) (by decide +kernel)) (by decide +kernel)
theorem mw_1129 : Cond.methodLink RL 146 yX11_moods ∈ gtbl := mg (List.mem_of_getElem? (i := 1129) (by decide +kernel)) (by decide +kernel)
theorem mw_1130 : Cond.instanceMethod yX11_moods ∈ gtbl := mg (List.mem_of_getElem? (i := 1130) (by decide +kernel)) (by decide +kernel)
theorem ms_X11_moods : Cond.selects RX11 yX11_moods yX11_moods ∈ gtbl := mg (List.mem_of_getElem? (i := 1131) (by decide +kernel)) (by decide +kernel)
theorem mw_1132 : Cond.code yX11_moods cX11_moods 2 (some .int) ∈ gtbl := mg (List.mem_of_getElem? (i := 1132) (by decide +kernel)) (by decide +kernel)
theorem mw_1955 : Cond.methodLink RL 149 yX12_moods ∈ gtbl := mg (List.mem_of_getElem? (i := 1955) (by decide +kernel)) (by decide +kernel)
theorem mw_1956 : Cond.instanceMethod yX12_moods ∈ gtbl := mg (List.mem_of_getElem? (i := 1956) (by decide +kernel)) (by decide +kernel)
theorem ms_X12_moods : Cond.selects RX12 yX12_moods yX12_moods ∈ gtbl := mg (List.mem_of_getElem? (i := 1957) (by decide +kernel)) (by decide +kernel)
theorem mw_1958 : Cond.code yX12_moods cX12_moods 2 (some .int) ∈ gtbl := mg (List.mem_of_getElem? (i := 1958) (by decide +kernel)) (by decide +kernel)
theorem mw_1150 : Cond.methodLink RL 150 yX11_ask ∈ gtbl := mg (List.mem_of_getElem? (i := 1150) (by decide +kernel)) (by decide +kernel)
theorem mw_1151 : Cond.instanceMethod yX11_ask ∈ gtbl := mg (List.mem_of_getElem? (i := 1151) (by decide +kernel)) (by decide +kernel)
theorem ms_X11_ask : Cond.selects RX11 yX11_ask yX11_ask ∈ gtbl := mg (List.mem_of_getElem? (i := 1152) (by decide +kernel)) (by decide +kernel)
theorem mw_1153 : Cond.code yX11_ask cX11_ask 8 (some .int) ∈ gtbl := mg (List.mem_of_getElem? (i := 1153) (by decide +kernel)) (by decide +kernel)
theorem mw_1979 : Cond.methodLink RL 153 yX12_ask ∈ gtbl := mg (List.mem_of_getElem? (i := 1979) (by decide +kernel)) (by decide +kernel)
theorem mw_1980 : Cond.instanceMethod yX12_ask ∈ gtbl := mg (List.mem_of_getElem? (i := 1980) (by decide +kernel)) (by decide +kernel)
theorem ms_X12_ask : Cond.selects RX12 yX12_ask yX12_ask ∈ gtbl := mg (List.mem_of_getElem? (i := 1981) (by decide +kernel)) (by decide +kernel)
theorem mw_1982 : Cond.code yX12_ask cX12_ask 6 (some .int) ∈ gtbl := mg (List.mem_of_getElem? (i := 1982) (by decide +kernel)) (by decide +kernel)
theorem mw_1162 : Cond.methodLink RL 154 yX11_chance ∈ gtbl := mg (List.mem_of_getElem? (i := 1162) (by decide +kernel)) (by decide +kernel)
theorem mw_1163 : Cond.instanceMethod yX11_chance ∈ gtbl := mg (List.mem_of_getElem? (i := 1163) (by decide +kernel)) (by decide +kernel)
theorem ms_X11_chance : Cond.selects RX11 yX11_chance yX11_chance ∈ gtbl := mg (List.mem_of_getElem? (i := 1164) (by decide +kernel)) (by decide +kernel)
theorem mw_1165 : Cond.code yX11_chance cX11_chance 8 (some .int) ∈ gtbl := mg (List.mem_of_getElem? (i := 1165) (by decide +kernel)) (by decide +kernel)
theorem mw_1987 : Cond.methodLink RL 157 yX12_chance ∈ gtbl := mg (List.mem_of_getElem? (i := 1987) (by decide +kernel)) (by decide +kernel)
theorem mw_1988 : Cond.instanceMethod yX12_chance ∈ gtbl := mg (List.mem_of_getElem? (i := 1988) (by decide +kernel)) (by decide +kernel)
theorem ms_X12_chance : Cond.selects RX12 yX12_chance yX12_chance ∈ gtbl := mg (List.mem_of_getElem? (i := 1989) (by decide +kernel)) (by decide +kernel)
theorem mw_1990 : Cond.code yX12_chance cX12_chance 8 (some .int) ∈ gtbl := mg (List.mem_of_getElem? (i := 1990) (by decide +kernel)) (by decide +kernel)
theorem mw_1166 : Cond.methodLink RL 158 yX11_tried ∈ gtbl := mg (List.mem_of_getElem? (i := 1166) (by decide +kernel)) (by decide +kernel)
theorem mw_1167 : Cond.instanceMethod yX11_tried ∈ gtbl := mg (List.mem_of_getElem? (i := 1167) (by decide +kernel)) (by decide +kernel)
theorem ms_X11_tried : Cond.selects RX11 yX11_tried yX11_tried ∈ gtbl := mg (List.mem_of_getElem? (i := 1168) (by decide +kernel)) (by decide +kernel)
theorem mw_1169 : Cond.code yX11_tried cX11_tried 5 (some .int) ∈ gtbl := mg (List.mem_of_getElem? (i := 1169) (by decide +kernel)) (by decide +kernel)
theorem mw_1991 : Cond.methodLink RL 161 yX12_tried ∈ gtbl := mg (List.mem_of_getElem? (i := 1991) (by decide +kernel)) (by decide +kernel)
theorem mw_1992 : Cond.instanceMethod yX12_tried ∈ gtbl := mg (List.mem_of_getElem? (i := 1992) (by decide +kernel)) (by decide +kernel)
theorem ms_X12_tried : Cond.selects RX12 yX12_tried yX12_tried ∈ gtbl := mg (List.mem_of_getElem? (i := 1993) (by decide +kernel)) (by decide +kernel)
theorem mw_1994 : Cond.code yX12_tried cX12_tried 4 (some .int) ∈ gtbl := mg (List.mem_of_getElem? (i := 1994) (by decide +kernel)) (by decide +kernel)
theorem mw_958 : Cond.methodLink RL 162 yX11_undo ∈ gtbl := mg (List.mem_of_getElem? (i := 958) (by decide +kernel)) (by decide +kernel)
theorem mw_959 : Cond.instanceMethod yX11_undo ∈ gtbl := mg (List.mem_of_getElem? (i := 959) (by decide +kernel)) (by decide +kernel)
theorem ms_X11_undo : Cond.selects RX11 yX11_undo yX11_undo ∈ gtbl := mg (List.mem_of_getElem? (i := 960) (by decide +kernel)) (by decide +kernel)
theorem mw_961 : Cond.code yX11_undo cX11_undo 1 (some .int) ∈ gtbl := mg (List.mem_of_getElem? (i := 961) (by decide +kernel)) (by decide +kernel)
theorem mw_1995 : Cond.methodLink RL 165 yX12_undo ∈ gtbl := mg (List.mem_of_getElem? (i := 1995) (by decide +kernel)) (by decide +kernel)
theorem mw_1996 : Cond.instanceMethod yX12_undo ∈ gtbl := mg (List.mem_of_getElem? (i := 1996) (by decide +kernel)) (by decide +kernel)
theorem ms_X12_undo : Cond.selects RX12 yX12_undo yX12_undo ∈ gtbl := mg (List.mem_of_getElem? (i := 1997) (by decide +kernel)) (by decide +kernel)
theorem mw_1998 : Cond.code yX12_undo cX12_undo 1 (some .int) ∈ gtbl := mg (List.mem_of_getElem? (i := 1998) (by decide +kernel)) (by decide +kernel)
theorem mw_968 : Cond.methodLink RL 166 yX11_keep ∈ gtbl := mg (List.mem_of_getElem? (i := 968) (by decide +kernel)) (by decide +kernel)
theorem mw_969 : Cond.instanceMethod yX11_keep ∈ gtbl := mg (List.mem_of_getElem? (i := 969) (by decide +kernel)) (by decide +kernel)
theorem ms_X11_keep : Cond.selects RX11 yX11_keep yX11_keep ∈ gtbl := mg (List.mem_of_getElem? (i := 970) (by decide +kernel)) (by decide +kernel)
theorem mw_971 : Cond.code yX11_keep cX11_keep 1 (some .int) ∈ gtbl := mg (List.mem_of_getElem? (i := 971) (by decide +kernel)) (by decide +kernel)
theorem mw_2003 : Cond.methodLink RL 169 yX12_keep ∈ gtbl := mg (List.mem_of_getElem? (i := 2003) (by decide +kernel)) (by decide +kernel)
theorem mw_2004 : Cond.instanceMethod yX12_keep ∈ gtbl := mg (List.mem_of_getElem? (i := 2004) (by decide +kernel)) (by decide +kernel)
theorem ms_X12_keep : Cond.selects RX12 yX12_keep yX12_keep ∈ gtbl := mg (List.mem_of_getElem? (i := 2005) (by decide +kernel)) (by decide +kernel)
theorem mw_2006 : Cond.code yX12_keep cX12_keep 2 (some .int) ∈ gtbl := mg (List.mem_of_getElem? (i := 2006) (by decide +kernel)) (by decide +kernel)
theorem mw_976 : Cond.methodLink RL 170 yX11_back ∈ gtbl := mg (List.mem_of_getElem? (i := 976) (by decide +kernel)) (by decide +kernel)
theorem mw_977 : Cond.instanceMethod yX11_back ∈ gtbl := mg (List.mem_of_getElem? (i := 977) (by decide +kernel)) (by decide +kernel)
theorem ms_X11_back : Cond.selects RX11 yX11_back yX11_back ∈ gtbl := mg (List.mem_of_getElem? (i := 978) (by decide +kernel)) (by decide +kernel)
theorem mw_979 : Cond.code yX11_back cX11_back 1 (some .int) ∈ gtbl := mg (List.mem_of_getElem? (i := 979) (by decide +kernel)) (by decide +kernel)
theorem mw_2007 : Cond.methodLink RL 173 yX12_back ∈ gtbl := mg (List.mem_of_getElem? (i := 2007) (by decide +kernel)) (by decide +kernel)
theorem mw_2008 : Cond.instanceMethod yX12_back ∈ gtbl := mg (List.mem_of_getElem? (i := 2008) (by decide +kernel)) (by decide +kernel)
theorem ms_X12_back : Cond.selects RX12 yX12_back yX12_back ∈ gtbl := mg (List.mem_of_getElem? (i := 2009) (by decide +kernel)) (by decide +kernel)
theorem mw_2010 : Cond.code yX12_back cX12_back 2 (some .int) ∈ gtbl := mg (List.mem_of_getElem? (i := 2010) (by decide +kernel)) (by decide +kernel)
theorem mw_807 : Cond.methodLink RL 174 yX11_count ∈ gtbl := mg (List.mem_of_getElem? (i := 807) (by decide +kernel)) (by decide +kernel)
theorem mw_808 : Cond.instanceMethod yX11_count ∈ gtbl := mg (List.mem_of_getElem? (i := 808) (by decide +kernel)) (by decide +kernel)
theorem ms_X11_count : Cond.selects RX11 yX11_count yX11_count ∈ gtbl := mg (List.mem_of_getElem? (i := 809) (by decide +kernel)) (by decide +kernel)
theorem mw_810 : Cond.code yX11_count cX11_count 2 (some .int) ∈ gtbl := mg (List.mem_of_getElem? (i := 810) (by decide +kernel)) (by decide +kernel)
theorem mw_2011 : Cond.methodLink RL 177 yX12_count ∈ gtbl := mg (List.mem_of_getElem? (i := 2011) (by decide +kernel)) (by decide +kernel)
theorem mw_2012 : Cond.instanceMethod yX12_count ∈ gtbl := mg (List.mem_of_getElem? (i := 2012) (by decide +kernel)) (by decide +kernel)
theorem ms_X12_count : Cond.selects RX12 yX12_count yX12_count ∈ gtbl := mg (List.mem_of_getElem? (i := 2013) (by decide +kernel)) (by decide +kernel)
theorem mw_2014 : Cond.code yX12_count cX12_count 4 (some .int) ∈ gtbl := mg (List.mem_of_getElem? (i := 2014) (by decide +kernel)) (by decide +kernel)
theorem dL_law_200 : decode cL_law 200 = .ok (.aload_n 1, 1) := by decide +kernel
theorem dL_law_201 : decode cL_law 201 = .ok (.aload_n 0, 1) := by decide +kernel
theorem dL_law_202 : decode cL_law 202 = .ok (.iload 4, 2) := by decide +kernel
theorem dL_law_204 : decode cL_law 204 = .ok (.iconst 1, 1) := by decide +kernel
theorem dL_law_205 : decode cL_law 205 = .ok (.iadd, 1) := by decide +kernel
theorem dL_law_206 : decode cL_law 206 = .ok (.iaload, 1) := by decide +kernel
theorem dL_law_207 : decode cL_law 207 = .ok (.aload_n 0, 1) := by decide +kernel
theorem dL_law_208 : decode cL_law 208 = .ok (.iload 4, 2) := by decide +kernel
theorem dL_law_210 : decode cL_law 210 = .ok (.iconst 2, 1) := by decide +kernel
theorem dL_law_211 : decode cL_law 211 = .ok (.iadd, 1) := by decide +kernel
theorem dL_law_212 : decode cL_law 212 = .ok (.iaload, 1) := by decide +kernel
theorem dL_law_213 : decode cL_law 213 = .ok (.aload_n 0, 1) := by decide +kernel
theorem dL_law_214 : decode cL_law 214 = .ok (.iload 4, 2) := by decide +kernel
theorem dL_law_216 : decode cL_law 216 = .ok (.iconst 3, 1) := by decide +kernel
theorem dL_law_217 : decode cL_law 217 = .ok (.iadd, 1) := by decide +kernel
theorem dL_law_218 : decode cL_law 218 = .ok (.iaload, 1) := by decide +kernel
theorem dL_law_219 : decode cL_law 219 = .ok (.aload_n 0, 1) := by decide +kernel
theorem dL_law_220 : decode cL_law 220 = .ok (.iload 4, 2) := by decide +kernel
theorem dL_law_222 : decode cL_law 222 = .ok (.iconst 4, 1) := by decide +kernel
theorem dL_law_223 : decode cL_law 223 = .ok (.iadd, 1) := by decide +kernel
theorem dL_law_224 : decode cL_law 224 = .ok (.iaload, 1) := by decide +kernel
theorem dL_law_225 : decode cL_law 225 = .ok (.aload_n 0, 1) := by decide +kernel
theorem dL_law_226 : decode cL_law 226 = .ok (.iload 4, 2) := by decide +kernel
theorem dL_law_228 : decode cL_law 228 = .ok (.iconst 5, 1) := by decide +kernel
theorem dL_law_229 : decode cL_law 229 = .ok (.iadd, 1) := by decide +kernel
theorem dL_law_230 : decode cL_law 230 = .ok (.iaload, 1) := by decide +kernel
theorem dL_law_231 : decode cL_law 231 = .ok (.invokevirtual 21, 3) := by decide +kernel
theorem dL_law_234 : decode cL_law 234 = .ok (.aload_n 2, 1) := by decide +kernel
theorem dL_law_235 : decode cL_law 235 = .ok (.aload_n 0, 1) := by decide +kernel
theorem dL_law_236 : decode cL_law 236 = .ok (.iload 4, 2) := by decide +kernel
theorem dL_law_238 : decode cL_law 238 = .ok (.iconst 1, 1) := by decide +kernel
theorem dL_law_239 : decode cL_law 239 = .ok (.iadd, 1) := by decide +kernel
theorem dL_law_240 : decode cL_law 240 = .ok (.iaload, 1) := by decide +kernel
theorem dL_law_241 : decode cL_law 241 = .ok (.aload_n 0, 1) := by decide +kernel
theorem dL_law_242 : decode cL_law 242 = .ok (.iload 4, 2) := by decide +kernel
theorem dL_law_244 : decode cL_law 244 = .ok (.iconst 2, 1) := by decide +kernel
theorem dL_law_245 : decode cL_law 245 = .ok (.iadd, 1) := by decide +kernel
theorem dL_law_246 : decode cL_law 246 = .ok (.iaload, 1) := by decide +kernel
theorem dL_law_247 : decode cL_law 247 = .ok (.aload_n 0, 1) := by decide +kernel
theorem dL_law_248 : decode cL_law 248 = .ok (.iload 4, 2) := by decide +kernel
theorem dL_law_250 : decode cL_law 250 = .ok (.iconst 3, 1) := by decide +kernel
theorem dL_law_251 : decode cL_law 251 = .ok (.iadd, 1) := by decide +kernel
theorem dL_law_252 : decode cL_law 252 = .ok (.iaload, 1) := by decide +kernel
theorem dL_law_253 : decode cL_law 253 = .ok (.aload_n 0, 1) := by decide +kernel
theorem dL_law_254 : decode cL_law 254 = .ok (.iload 4, 2) := by decide +kernel
theorem dL_law_256 : decode cL_law 256 = .ok (.iconst 4, 1) := by decide +kernel
theorem dL_law_257 : decode cL_law 257 = .ok (.iadd, 1) := by decide +kernel
theorem dL_law_258 : decode cL_law 258 = .ok (.iaload, 1) := by decide +kernel
theorem dL_law_259 : decode cL_law 259 = .ok (.aload_n 0, 1) := by decide +kernel
theorem dL_law_260 : decode cL_law 260 = .ok (.iload 4, 2) := by decide +kernel
theorem dL_law_262 : decode cL_law 262 = .ok (.iconst 5, 1) := by decide +kernel
theorem dL_law_263 : decode cL_law 263 = .ok (.iadd, 1) := by decide +kernel
theorem dL_law_264 : decode cL_law 264 = .ok (.iaload, 1) := by decide +kernel
theorem dL_law_265 : decode cL_law 265 = .ok (.invokevirtual 25, 3) := by decide +kernel
theorem dL_law_268 : decode cL_law 268 = .ok (.if_icmp .eq 1193, 3) := by decide +kernel
theorem dL_law_298 : decode cL_law 298 = .ok (.aload_n 1, 1) := by decide +kernel
theorem dL_law_299 : decode cL_law 299 = .ok (.aload_n 0, 1) := by decide +kernel
theorem dL_law_300 : decode cL_law 300 = .ok (.iload 4, 2) := by decide +kernel
theorem dL_law_302 : decode cL_law 302 = .ok (.iconst 1, 1) := by decide +kernel
theorem dL_law_303 : decode cL_law 303 = .ok (.iadd, 1) := by decide +kernel
theorem dL_law_304 : decode cL_law 304 = .ok (.iaload, 1) := by decide +kernel
theorem dL_law_305 : decode cL_law 305 = .ok (.invokevirtual 31, 3) := by decide +kernel
theorem dL_law_308 : decode cL_law 308 = .ok (.aload_n 2, 1) := by decide +kernel
theorem dL_law_309 : decode cL_law 309 = .ok (.aload_n 0, 1) := by decide +kernel
theorem dL_law_310 : decode cL_law 310 = .ok (.iload 4, 2) := by decide +kernel
theorem dL_law_312 : decode cL_law 312 = .ok (.iconst 1, 1) := by decide +kernel
theorem dL_law_313 : decode cL_law 313 = .ok (.iadd, 1) := by decide +kernel
theorem dL_law_314 : decode cL_law 314 = .ok (.iaload, 1) := by decide +kernel
theorem dL_law_315 : decode cL_law 315 = .ok (.invokevirtual 34, 3) := by decide +kernel
theorem dL_law_318 : decode cL_law 318 = .ok (.if_icmp .eq 1143, 3) := by decide +kernel
theorem dL_law_323 : decode cL_law 323 = .ok (.aload_n 1, 1) := by decide +kernel
theorem dL_law_324 : decode cL_law 324 = .ok (.aload_n 0, 1) := by decide +kernel
theorem dL_law_325 : decode cL_law 325 = .ok (.iload 4, 2) := by decide +kernel
theorem dL_law_327 : decode cL_law 327 = .ok (.iconst 1, 1) := by decide +kernel
theorem dL_law_328 : decode cL_law 328 = .ok (.iadd, 1) := by decide +kernel
theorem dL_law_329 : decode cL_law 329 = .ok (.iaload, 1) := by decide +kernel
theorem dL_law_330 : decode cL_law 330 = .ok (.aload_n 0, 1) := by decide +kernel
theorem dL_law_331 : decode cL_law 331 = .ok (.iload 4, 2) := by decide +kernel
theorem dL_law_333 : decode cL_law 333 = .ok (.iconst 2, 1) := by decide +kernel
theorem dL_law_334 : decode cL_law 334 = .ok (.iadd, 1) := by decide +kernel
theorem dL_law_335 : decode cL_law 335 = .ok (.iaload, 1) := by decide +kernel
theorem dL_law_336 : decode cL_law 336 = .ok (.invokevirtual 35, 3) := by decide +kernel
theorem dL_law_339 : decode cL_law 339 = .ok (.aload_n 2, 1) := by decide +kernel
theorem dL_law_340 : decode cL_law 340 = .ok (.aload_n 0, 1) := by decide +kernel
theorem dL_law_341 : decode cL_law 341 = .ok (.iload 4, 2) := by decide +kernel
theorem dL_law_343 : decode cL_law 343 = .ok (.iconst 1, 1) := by decide +kernel
theorem dL_law_344 : decode cL_law 344 = .ok (.iadd, 1) := by decide +kernel
theorem dL_law_345 : decode cL_law 345 = .ok (.iaload, 1) := by decide +kernel
theorem dL_law_346 : decode cL_law 346 = .ok (.aload_n 0, 1) := by decide +kernel
theorem dL_law_347 : decode cL_law 347 = .ok (.iload 4, 2) := by decide +kernel
theorem dL_law_349 : decode cL_law 349 = .ok (.iconst 2, 1) := by decide +kernel
theorem dL_law_350 : decode cL_law 350 = .ok (.iadd, 1) := by decide +kernel
theorem dL_law_351 : decode cL_law 351 = .ok (.iaload, 1) := by decide +kernel
theorem dL_law_352 : decode cL_law 352 = .ok (.invokevirtual 38, 3) := by decide +kernel
theorem dL_law_355 : decode cL_law 355 = .ok (.if_icmp .eq 1106, 3) := by decide +kernel
theorem dL_law_428 : decode cL_law 428 = .ok (.aload_n 1, 1) := by decide +kernel
theorem dL_law_429 : decode cL_law 429 = .ok (.aload_n 0, 1) := by decide +kernel
theorem dL_law_430 : decode cL_law 430 = .ok (.iload 4, 2) := by decide +kernel
theorem dL_law_432 : decode cL_law 432 = .ok (.iconst 1, 1) := by decide +kernel
theorem dL_law_433 : decode cL_law 433 = .ok (.iadd, 1) := by decide +kernel
theorem dL_law_434 : decode cL_law 434 = .ok (.iaload, 1) := by decide +kernel
theorem dL_law_435 : decode cL_law 435 = .ok (.aload_n 0, 1) := by decide +kernel
theorem dL_law_436 : decode cL_law 436 = .ok (.iload 4, 2) := by decide +kernel
theorem dL_law_438 : decode cL_law 438 = .ok (.iconst 2, 1) := by decide +kernel
theorem dL_law_439 : decode cL_law 439 = .ok (.iadd, 1) := by decide +kernel
theorem dL_law_440 : decode cL_law 440 = .ok (.iaload, 1) := by decide +kernel
theorem dL_law_441 : decode cL_law 441 = .ok (.invokevirtual 49, 3) := by decide +kernel
theorem dL_law_444 : decode cL_law 444 = .ok (.aload_n 2, 1) := by decide +kernel
theorem dL_law_445 : decode cL_law 445 = .ok (.aload_n 0, 1) := by decide +kernel
theorem dL_law_446 : decode cL_law 446 = .ok (.iload 4, 2) := by decide +kernel
theorem dL_law_448 : decode cL_law 448 = .ok (.iconst 1, 1) := by decide +kernel
theorem dL_law_449 : decode cL_law 449 = .ok (.iadd, 1) := by decide +kernel
theorem dL_law_450 : decode cL_law 450 = .ok (.iaload, 1) := by decide +kernel
theorem dL_law_451 : decode cL_law 451 = .ok (.aload_n 0, 1) := by decide +kernel
theorem dL_law_452 : decode cL_law 452 = .ok (.iload 4, 2) := by decide +kernel
theorem dL_law_454 : decode cL_law 454 = .ok (.iconst 2, 1) := by decide +kernel
theorem dL_law_455 : decode cL_law 455 = .ok (.iadd, 1) := by decide +kernel
theorem dL_law_456 : decode cL_law 456 = .ok (.iaload, 1) := by decide +kernel
theorem dL_law_457 : decode cL_law 457 = .ok (.invokevirtual 52, 3) := by decide +kernel
theorem dL_law_460 : decode cL_law 460 = .ok (.if_icmp .eq 1001, 3) := by decide +kernel
theorem dL_law_465 : decode cL_law 465 = .ok (.aload_n 1, 1) := by decide +kernel
theorem dL_law_466 : decode cL_law 466 = .ok (.aload_n 0, 1) := by decide +kernel
theorem dL_law_467 : decode cL_law 467 = .ok (.iload 4, 2) := by decide +kernel
theorem dL_law_469 : decode cL_law 469 = .ok (.iconst 1, 1) := by decide +kernel
theorem dL_law_470 : decode cL_law 470 = .ok (.iadd, 1) := by decide +kernel
theorem dL_law_471 : decode cL_law 471 = .ok (.iaload, 1) := by decide +kernel
theorem dL_law_472 : decode cL_law 472 = .ok (.aload_n 0, 1) := by decide +kernel
theorem dL_law_473 : decode cL_law 473 = .ok (.iload 4, 2) := by decide +kernel
theorem dL_law_475 : decode cL_law 475 = .ok (.iconst 2, 1) := by decide +kernel
theorem dL_law_476 : decode cL_law 476 = .ok (.iadd, 1) := by decide +kernel
theorem dL_law_477 : decode cL_law 477 = .ok (.iaload, 1) := by decide +kernel
theorem dL_law_478 : decode cL_law 478 = .ok (.invokevirtual 53, 3) := by decide +kernel
theorem dL_law_481 : decode cL_law 481 = .ok (.aload_n 2, 1) := by decide +kernel
theorem dL_law_482 : decode cL_law 482 = .ok (.aload_n 0, 1) := by decide +kernel
theorem dL_law_483 : decode cL_law 483 = .ok (.iload 4, 2) := by decide +kernel
theorem dL_law_485 : decode cL_law 485 = .ok (.iconst 1, 1) := by decide +kernel
theorem dL_law_486 : decode cL_law 486 = .ok (.iadd, 1) := by decide +kernel
theorem dL_law_487 : decode cL_law 487 = .ok (.iaload, 1) := by decide +kernel
theorem dL_law_488 : decode cL_law 488 = .ok (.aload_n 0, 1) := by decide +kernel
theorem dL_law_489 : decode cL_law 489 = .ok (.iload 4, 2) := by decide +kernel
theorem dL_law_491 : decode cL_law 491 = .ok (.iconst 2, 1) := by decide +kernel
theorem dL_law_492 : decode cL_law 492 = .ok (.iadd, 1) := by decide +kernel
theorem dL_law_493 : decode cL_law 493 = .ok (.iaload, 1) := by decide +kernel
theorem dL_law_494 : decode cL_law 494 = .ok (.invokevirtual 56, 3) := by decide +kernel
theorem dL_law_497 : decode cL_law 497 = .ok (.if_icmp .eq 964, 3) := by decide +kernel
theorem dL_law_502 : decode cL_law 502 = .ok (.aload_n 1, 1) := by decide +kernel
theorem dL_law_503 : decode cL_law 503 = .ok (.aload_n 0, 1) := by decide +kernel
theorem dL_law_504 : decode cL_law 504 = .ok (.iload 4, 2) := by decide +kernel
theorem dL_law_506 : decode cL_law 506 = .ok (.iconst 1, 1) := by decide +kernel
theorem dL_law_507 : decode cL_law 507 = .ok (.iadd, 1) := by decide +kernel
theorem dL_law_508 : decode cL_law 508 = .ok (.iaload, 1) := by decide +kernel
theorem dL_law_509 : decode cL_law 509 = .ok (.aload_n 0, 1) := by decide +kernel
theorem dL_law_510 : decode cL_law 510 = .ok (.iload 4, 2) := by decide +kernel
theorem dL_law_512 : decode cL_law 512 = .ok (.iconst 2, 1) := by decide +kernel
theorem dL_law_513 : decode cL_law 513 = .ok (.iadd, 1) := by decide +kernel
theorem dL_law_514 : decode cL_law 514 = .ok (.iaload, 1) := by decide +kernel
theorem dL_law_515 : decode cL_law 515 = .ok (.invokevirtual 57, 3) := by decide +kernel
theorem dL_law_518 : decode cL_law 518 = .ok (.aload_n 2, 1) := by decide +kernel
theorem dL_law_519 : decode cL_law 519 = .ok (.aload_n 0, 1) := by decide +kernel
theorem dL_law_520 : decode cL_law 520 = .ok (.iload 4, 2) := by decide +kernel
theorem dL_law_522 : decode cL_law 522 = .ok (.iconst 1, 1) := by decide +kernel
theorem dL_law_523 : decode cL_law 523 = .ok (.iadd, 1) := by decide +kernel
theorem dL_law_524 : decode cL_law 524 = .ok (.iaload, 1) := by decide +kernel
theorem dL_law_525 : decode cL_law 525 = .ok (.aload_n 0, 1) := by decide +kernel
theorem dL_law_526 : decode cL_law 526 = .ok (.iload 4, 2) := by decide +kernel
theorem dL_law_528 : decode cL_law 528 = .ok (.iconst 2, 1) := by decide +kernel
theorem dL_law_529 : decode cL_law 529 = .ok (.iadd, 1) := by decide +kernel
theorem dL_law_530 : decode cL_law 530 = .ok (.iaload, 1) := by decide +kernel
theorem dL_law_531 : decode cL_law 531 = .ok (.invokevirtual 61, 3) := by decide +kernel
theorem dL_law_534 : decode cL_law 534 = .ok (.lcmp, 1) := by decide +kernel
theorem dL_law_535 : decode cL_law 535 = .ok (.ifCond .eq 926, 3) := by decide +kernel
theorem dL_law_540 : decode cL_law 540 = .ok (.aload_n 1, 1) := by decide +kernel
theorem dL_law_541 : decode cL_law 541 = .ok (.aload_n 0, 1) := by decide +kernel
theorem dL_law_542 : decode cL_law 542 = .ok (.iload 4, 2) := by decide +kernel
theorem dL_law_544 : decode cL_law 544 = .ok (.iconst 1, 1) := by decide +kernel
theorem dL_law_545 : decode cL_law 545 = .ok (.iadd, 1) := by decide +kernel
theorem dL_law_546 : decode cL_law 546 = .ok (.iaload, 1) := by decide +kernel
theorem dL_law_547 : decode cL_law 547 = .ok (.invokevirtual 62, 3) := by decide +kernel
theorem dL_law_550 : decode cL_law 550 = .ok (.aload_n 2, 1) := by decide +kernel
theorem dL_law_551 : decode cL_law 551 = .ok (.aload_n 0, 1) := by decide +kernel
theorem dL_law_552 : decode cL_law 552 = .ok (.iload 4, 2) := by decide +kernel
theorem dL_law_554 : decode cL_law 554 = .ok (.iconst 1, 1) := by decide +kernel
theorem dL_law_555 : decode cL_law 555 = .ok (.iadd, 1) := by decide +kernel
theorem dL_law_556 : decode cL_law 556 = .ok (.iaload, 1) := by decide +kernel
theorem dL_law_557 : decode cL_law 557 = .ok (.invokevirtual 65, 3) := by decide +kernel
theorem dL_law_560 : decode cL_law 560 = .ok (.if_icmp .eq 901, 3) := by decide +kernel
theorem dL_law_565 : decode cL_law 565 = .ok (.aload_n 1, 1) := by decide +kernel
theorem dL_law_566 : decode cL_law 566 = .ok (.aload_n 0, 1) := by decide +kernel
theorem dL_law_567 : decode cL_law 567 = .ok (.iload 4, 2) := by decide +kernel
theorem dL_law_569 : decode cL_law 569 = .ok (.iconst 1, 1) := by decide +kernel
theorem dL_law_570 : decode cL_law 570 = .ok (.iadd, 1) := by decide +kernel
theorem dL_law_571 : decode cL_law 571 = .ok (.iaload, 1) := by decide +kernel
theorem dL_law_572 : decode cL_law 572 = .ok (.aload_n 0, 1) := by decide +kernel
theorem dL_law_573 : decode cL_law 573 = .ok (.iload 4, 2) := by decide +kernel
theorem dL_law_575 : decode cL_law 575 = .ok (.iconst 2, 1) := by decide +kernel
theorem dL_law_576 : decode cL_law 576 = .ok (.iadd, 1) := by decide +kernel
theorem dL_law_577 : decode cL_law 577 = .ok (.iaload, 1) := by decide +kernel
theorem dL_law_578 : decode cL_law 578 = .ok (.invokevirtual 66, 3) := by decide +kernel
theorem dL_law_581 : decode cL_law 581 = .ok (.aload_n 2, 1) := by decide +kernel
theorem dL_law_582 : decode cL_law 582 = .ok (.aload_n 0, 1) := by decide +kernel
theorem dL_law_583 : decode cL_law 583 = .ok (.iload 4, 2) := by decide +kernel
theorem dL_law_585 : decode cL_law 585 = .ok (.iconst 1, 1) := by decide +kernel
theorem dL_law_586 : decode cL_law 586 = .ok (.iadd, 1) := by decide +kernel
theorem dL_law_587 : decode cL_law 587 = .ok (.iaload, 1) := by decide +kernel
theorem dL_law_588 : decode cL_law 588 = .ok (.aload_n 0, 1) := by decide +kernel
theorem dL_law_589 : decode cL_law 589 = .ok (.iload 4, 2) := by decide +kernel
theorem dL_law_591 : decode cL_law 591 = .ok (.iconst 2, 1) := by decide +kernel
theorem dL_law_592 : decode cL_law 592 = .ok (.iadd, 1) := by decide +kernel
theorem dL_law_593 : decode cL_law 593 = .ok (.iaload, 1) := by decide +kernel
theorem dL_law_594 : decode cL_law 594 = .ok (.invokevirtual 69, 3) := by decide +kernel
theorem dL_law_597 : decode cL_law 597 = .ok (.if_icmp .eq 864, 3) := by decide +kernel
theorem dL_law_602 : decode cL_law 602 = .ok (.aload_n 1, 1) := by decide +kernel
theorem dL_law_603 : decode cL_law 603 = .ok (.aload_n 0, 1) := by decide +kernel
theorem dL_law_604 : decode cL_law 604 = .ok (.iload 4, 2) := by decide +kernel
theorem dL_law_606 : decode cL_law 606 = .ok (.iconst 1, 1) := by decide +kernel
theorem dL_law_607 : decode cL_law 607 = .ok (.iadd, 1) := by decide +kernel
theorem dL_law_608 : decode cL_law 608 = .ok (.iaload, 1) := by decide +kernel
theorem dL_law_609 : decode cL_law 609 = .ok (.invokevirtual 70, 3) := by decide +kernel
theorem dL_law_612 : decode cL_law 612 = .ok (.aload_n 2, 1) := by decide +kernel
theorem dL_law_613 : decode cL_law 613 = .ok (.aload_n 0, 1) := by decide +kernel
theorem dL_law_614 : decode cL_law 614 = .ok (.iload 4, 2) := by decide +kernel
theorem dL_law_616 : decode cL_law 616 = .ok (.iconst 1, 1) := by decide +kernel
theorem dL_law_617 : decode cL_law 617 = .ok (.iadd, 1) := by decide +kernel
theorem dL_law_618 : decode cL_law 618 = .ok (.iaload, 1) := by decide +kernel
theorem dL_law_619 : decode cL_law 619 = .ok (.invokevirtual 73, 3) := by decide +kernel
theorem dL_law_622 : decode cL_law 622 = .ok (.if_icmp .eq 839, 3) := by decide +kernel
theorem dL_law_627 : decode cL_law 627 = .ok (.aload_n 1, 1) := by decide +kernel
theorem dL_law_628 : decode cL_law 628 = .ok (.aload_n 0, 1) := by decide +kernel
theorem dL_law_629 : decode cL_law 629 = .ok (.iload 4, 2) := by decide +kernel
theorem dL_law_631 : decode cL_law 631 = .ok (.iconst 1, 1) := by decide +kernel
theorem dL_law_632 : decode cL_law 632 = .ok (.iadd, 1) := by decide +kernel
theorem dL_law_633 : decode cL_law 633 = .ok (.iaload, 1) := by decide +kernel
theorem dL_law_634 : decode cL_law 634 = .ok (.invokevirtual 74, 3) := by decide +kernel
theorem dL_law_637 : decode cL_law 637 = .ok (.aload_n 2, 1) := by decide +kernel
theorem dL_law_638 : decode cL_law 638 = .ok (.aload_n 0, 1) := by decide +kernel
theorem dL_law_639 : decode cL_law 639 = .ok (.iload 4, 2) := by decide +kernel
theorem dL_law_641 : decode cL_law 641 = .ok (.iconst 1, 1) := by decide +kernel
theorem dL_law_642 : decode cL_law 642 = .ok (.iadd, 1) := by decide +kernel
theorem dL_law_643 : decode cL_law 643 = .ok (.iaload, 1) := by decide +kernel
theorem dL_law_644 : decode cL_law 644 = .ok (.invokevirtual 77, 3) := by decide +kernel
theorem dL_law_647 : decode cL_law 647 = .ok (.if_icmp .eq 814, 3) := by decide +kernel
theorem dL_law_652 : decode cL_law 652 = .ok (.aload_n 1, 1) := by decide +kernel
theorem dL_law_653 : decode cL_law 653 = .ok (.aload_n 0, 1) := by decide +kernel
theorem dL_law_654 : decode cL_law 654 = .ok (.iload 4, 2) := by decide +kernel
theorem dL_law_656 : decode cL_law 656 = .ok (.iconst 1, 1) := by decide +kernel
theorem dL_law_657 : decode cL_law 657 = .ok (.iadd, 1) := by decide +kernel
theorem dL_law_658 : decode cL_law 658 = .ok (.iaload, 1) := by decide +kernel
theorem dL_law_659 : decode cL_law 659 = .ok (.aload_n 0, 1) := by decide +kernel
theorem dL_law_660 : decode cL_law 660 = .ok (.iload 4, 2) := by decide +kernel
theorem dL_law_662 : decode cL_law 662 = .ok (.iconst 2, 1) := by decide +kernel
theorem dL_law_663 : decode cL_law 663 = .ok (.iadd, 1) := by decide +kernel
theorem dL_law_664 : decode cL_law 664 = .ok (.iaload, 1) := by decide +kernel
theorem dL_law_665 : decode cL_law 665 = .ok (.aload_n 0, 1) := by decide +kernel
theorem dL_law_666 : decode cL_law 666 = .ok (.iload 4, 2) := by decide +kernel
theorem dL_law_668 : decode cL_law 668 = .ok (.iconst 3, 1) := by decide +kernel
theorem dL_law_669 : decode cL_law 669 = .ok (.iadd, 1) := by decide +kernel
theorem dL_law_670 : decode cL_law 670 = .ok (.iaload, 1) := by decide +kernel
theorem dL_law_671 : decode cL_law 671 = .ok (.invokevirtual 78, 3) := by decide +kernel
theorem dL_law_674 : decode cL_law 674 = .ok (.aload_n 2, 1) := by decide +kernel
theorem dL_law_675 : decode cL_law 675 = .ok (.aload_n 0, 1) := by decide +kernel
theorem dL_law_676 : decode cL_law 676 = .ok (.iload 4, 2) := by decide +kernel
theorem dL_law_678 : decode cL_law 678 = .ok (.iconst 1, 1) := by decide +kernel
theorem dL_law_679 : decode cL_law 679 = .ok (.iadd, 1) := by decide +kernel
theorem dL_law_680 : decode cL_law 680 = .ok (.iaload, 1) := by decide +kernel
theorem dL_law_681 : decode cL_law 681 = .ok (.aload_n 0, 1) := by decide +kernel
theorem dL_law_682 : decode cL_law 682 = .ok (.iload 4, 2) := by decide +kernel
theorem dL_law_684 : decode cL_law 684 = .ok (.iconst 2, 1) := by decide +kernel
theorem dL_law_685 : decode cL_law 685 = .ok (.iadd, 1) := by decide +kernel
theorem dL_law_686 : decode cL_law 686 = .ok (.iaload, 1) := by decide +kernel
theorem dL_law_687 : decode cL_law 687 = .ok (.aload_n 0, 1) := by decide +kernel
theorem dL_law_688 : decode cL_law 688 = .ok (.iload 4, 2) := by decide +kernel
theorem dL_law_690 : decode cL_law 690 = .ok (.iconst 3, 1) := by decide +kernel
theorem dL_law_691 : decode cL_law 691 = .ok (.iadd, 1) := by decide +kernel
theorem dL_law_692 : decode cL_law 692 = .ok (.iaload, 1) := by decide +kernel
theorem dL_law_693 : decode cL_law 693 = .ok (.invokevirtual 82, 3) := by decide +kernel
theorem dL_law_696 : decode cL_law 696 = .ok (.if_icmp .eq 765, 3) := by decide +kernel
theorem dL_law_701 : decode cL_law 701 = .ok (.aload_n 1, 1) := by decide +kernel
theorem dL_law_702 : decode cL_law 702 = .ok (.aload_n 0, 1) := by decide +kernel
theorem dL_law_703 : decode cL_law 703 = .ok (.iload 4, 2) := by decide +kernel
theorem dL_law_705 : decode cL_law 705 = .ok (.iconst 1, 1) := by decide +kernel
theorem dL_law_706 : decode cL_law 706 = .ok (.iadd, 1) := by decide +kernel
theorem dL_law_707 : decode cL_law 707 = .ok (.iaload, 1) := by decide +kernel
theorem dL_law_708 : decode cL_law 708 = .ok (.invokevirtual 83, 3) := by decide +kernel
theorem dL_law_711 : decode cL_law 711 = .ok (.aload_n 2, 1) := by decide +kernel
theorem dL_law_712 : decode cL_law 712 = .ok (.aload_n 0, 1) := by decide +kernel
theorem dL_law_713 : decode cL_law 713 = .ok (.iload 4, 2) := by decide +kernel
theorem dL_law_715 : decode cL_law 715 = .ok (.iconst 1, 1) := by decide +kernel
theorem dL_law_716 : decode cL_law 716 = .ok (.iadd, 1) := by decide +kernel
theorem dL_law_717 : decode cL_law 717 = .ok (.iaload, 1) := by decide +kernel
theorem dL_law_718 : decode cL_law 718 = .ok (.invokevirtual 86, 3) := by decide +kernel
theorem dL_law_721 : decode cL_law 721 = .ok (.if_icmp .eq 740, 3) := by decide +kernel
theorem dL_law_726 : decode cL_law 726 = .ok (.aload_n 1, 1) := by decide +kernel
theorem dL_law_727 : decode cL_law 727 = .ok (.aload_n 0, 1) := by decide +kernel
theorem dL_law_728 : decode cL_law 728 = .ok (.iload 4, 2) := by decide +kernel
theorem dL_law_730 : decode cL_law 730 = .ok (.iconst 1, 1) := by decide +kernel
theorem dL_law_731 : decode cL_law 731 = .ok (.iadd, 1) := by decide +kernel
theorem dL_law_732 : decode cL_law 732 = .ok (.iaload, 1) := by decide +kernel
theorem dL_law_733 : decode cL_law 733 = .ok (.invokevirtual 87, 3) := by decide +kernel
theorem dL_law_736 : decode cL_law 736 = .ok (.aload_n 2, 1) := by decide +kernel
theorem dL_law_737 : decode cL_law 737 = .ok (.aload_n 0, 1) := by decide +kernel
theorem dL_law_738 : decode cL_law 738 = .ok (.iload 4, 2) := by decide +kernel
theorem dL_law_740 : decode cL_law 740 = .ok (.iconst 1, 1) := by decide +kernel
theorem dL_law_741 : decode cL_law 741 = .ok (.iadd, 1) := by decide +kernel
theorem dL_law_742 : decode cL_law 742 = .ok (.iaload, 1) := by decide +kernel
theorem dL_law_743 : decode cL_law 743 = .ok (.invokevirtual 90, 3) := by decide +kernel
theorem dL_law_746 : decode cL_law 746 = .ok (.if_icmp .eq 715, 3) := by decide +kernel
theorem dL_law_751 : decode cL_law 751 = .ok (.aload_n 1, 1) := by decide +kernel
theorem dL_law_752 : decode cL_law 752 = .ok (.aload_n 0, 1) := by decide +kernel
theorem dL_law_753 : decode cL_law 753 = .ok (.iload 4, 2) := by decide +kernel
theorem dL_law_755 : decode cL_law 755 = .ok (.iconst 1, 1) := by decide +kernel
theorem dL_law_756 : decode cL_law 756 = .ok (.iadd, 1) := by decide +kernel
theorem dL_law_757 : decode cL_law 757 = .ok (.iaload, 1) := by decide +kernel
theorem dL_law_758 : decode cL_law 758 = .ok (.aload_n 0, 1) := by decide +kernel
theorem dL_law_759 : decode cL_law 759 = .ok (.iload 4, 2) := by decide +kernel
theorem dL_law_761 : decode cL_law 761 = .ok (.iconst 2, 1) := by decide +kernel
theorem dL_law_762 : decode cL_law 762 = .ok (.iadd, 1) := by decide +kernel
theorem dL_law_763 : decode cL_law 763 = .ok (.iaload, 1) := by decide +kernel
theorem dL_law_764 : decode cL_law 764 = .ok (.invokevirtual 91, 3) := by decide +kernel
theorem dL_law_767 : decode cL_law 767 = .ok (.aload_n 2, 1) := by decide +kernel
theorem dL_law_768 : decode cL_law 768 = .ok (.aload_n 0, 1) := by decide +kernel
theorem dL_law_769 : decode cL_law 769 = .ok (.iload 4, 2) := by decide +kernel
theorem dL_law_771 : decode cL_law 771 = .ok (.iconst 1, 1) := by decide +kernel
theorem dL_law_772 : decode cL_law 772 = .ok (.iadd, 1) := by decide +kernel
theorem dL_law_773 : decode cL_law 773 = .ok (.iaload, 1) := by decide +kernel
theorem dL_law_774 : decode cL_law 774 = .ok (.aload_n 0, 1) := by decide +kernel
theorem dL_law_775 : decode cL_law 775 = .ok (.iload 4, 2) := by decide +kernel
theorem dL_law_777 : decode cL_law 777 = .ok (.iconst 2, 1) := by decide +kernel
theorem dL_law_778 : decode cL_law 778 = .ok (.iadd, 1) := by decide +kernel
theorem dL_law_779 : decode cL_law 779 = .ok (.iaload, 1) := by decide +kernel
theorem dL_law_780 : decode cL_law 780 = .ok (.invokevirtual 94, 3) := by decide +kernel
theorem dL_law_783 : decode cL_law 783 = .ok (.if_icmp .eq 678, 3) := by decide +kernel
theorem dL_law_788 : decode cL_law 788 = .ok (.aload_n 1, 1) := by decide +kernel
theorem dL_law_789 : decode cL_law 789 = .ok (.aload_n 0, 1) := by decide +kernel
theorem dL_law_790 : decode cL_law 790 = .ok (.iload 4, 2) := by decide +kernel
theorem dL_law_792 : decode cL_law 792 = .ok (.iconst 1, 1) := by decide +kernel
theorem dL_law_793 : decode cL_law 793 = .ok (.iadd, 1) := by decide +kernel
theorem dL_law_794 : decode cL_law 794 = .ok (.iaload, 1) := by decide +kernel
theorem dL_law_795 : decode cL_law 795 = .ok (.aload_n 0, 1) := by decide +kernel
theorem dL_law_796 : decode cL_law 796 = .ok (.iload 4, 2) := by decide +kernel
theorem dL_law_798 : decode cL_law 798 = .ok (.iconst 2, 1) := by decide +kernel
theorem dL_law_799 : decode cL_law 799 = .ok (.iadd, 1) := by decide +kernel
theorem dL_law_800 : decode cL_law 800 = .ok (.iaload, 1) := by decide +kernel
theorem dL_law_801 : decode cL_law 801 = .ok (.invokevirtual 95, 3) := by decide +kernel
theorem dL_law_804 : decode cL_law 804 = .ok (.aload_n 2, 1) := by decide +kernel
theorem dL_law_805 : decode cL_law 805 = .ok (.aload_n 0, 1) := by decide +kernel
theorem dL_law_806 : decode cL_law 806 = .ok (.iload 4, 2) := by decide +kernel
theorem dL_law_808 : decode cL_law 808 = .ok (.iconst 1, 1) := by decide +kernel
theorem dL_law_809 : decode cL_law 809 = .ok (.iadd, 1) := by decide +kernel
theorem dL_law_810 : decode cL_law 810 = .ok (.iaload, 1) := by decide +kernel
theorem dL_law_811 : decode cL_law 811 = .ok (.aload_n 0, 1) := by decide +kernel
theorem dL_law_812 : decode cL_law 812 = .ok (.iload 4, 2) := by decide +kernel
theorem dL_law_814 : decode cL_law 814 = .ok (.iconst 2, 1) := by decide +kernel
theorem dL_law_815 : decode cL_law 815 = .ok (.iadd, 1) := by decide +kernel
theorem dL_law_816 : decode cL_law 816 = .ok (.iaload, 1) := by decide +kernel
theorem dL_law_817 : decode cL_law 817 = .ok (.invokevirtual 98, 3) := by decide +kernel
theorem dL_law_820 : decode cL_law 820 = .ok (.if_icmp .eq 641, 3) := by decide +kernel
theorem dL_law_825 : decode cL_law 825 = .ok (.aload_n 1, 1) := by decide +kernel
theorem dL_law_826 : decode cL_law 826 = .ok (.aload_n 0, 1) := by decide +kernel
theorem dL_law_827 : decode cL_law 827 = .ok (.iload 4, 2) := by decide +kernel
theorem dL_law_829 : decode cL_law 829 = .ok (.iconst 1, 1) := by decide +kernel
theorem dL_law_830 : decode cL_law 830 = .ok (.iadd, 1) := by decide +kernel
theorem dL_law_831 : decode cL_law 831 = .ok (.iaload, 1) := by decide +kernel
theorem dL_law_832 : decode cL_law 832 = .ok (.invokevirtual 99, 3) := by decide +kernel
theorem dL_law_835 : decode cL_law 835 = .ok (.aload_n 2, 1) := by decide +kernel
theorem dL_law_836 : decode cL_law 836 = .ok (.aload_n 0, 1) := by decide +kernel
theorem dL_law_837 : decode cL_law 837 = .ok (.iload 4, 2) := by decide +kernel
theorem dL_law_839 : decode cL_law 839 = .ok (.iconst 1, 1) := by decide +kernel
theorem dL_law_840 : decode cL_law 840 = .ok (.iadd, 1) := by decide +kernel
theorem dL_law_841 : decode cL_law 841 = .ok (.iaload, 1) := by decide +kernel
theorem dL_law_842 : decode cL_law 842 = .ok (.invokevirtual 102, 3) := by decide +kernel
theorem dL_law_845 : decode cL_law 845 = .ok (.if_icmp .eq 616, 3) := by decide +kernel
theorem dL_law_850 : decode cL_law 850 = .ok (.aload_n 1, 1) := by decide +kernel
theorem dL_law_851 : decode cL_law 851 = .ok (.aload_n 0, 1) := by decide +kernel
theorem dL_law_852 : decode cL_law 852 = .ok (.iload 4, 2) := by decide +kernel
theorem dL_law_854 : decode cL_law 854 = .ok (.iconst 1, 1) := by decide +kernel
theorem dL_law_855 : decode cL_law 855 = .ok (.iadd, 1) := by decide +kernel
theorem dL_law_856 : decode cL_law 856 = .ok (.iaload, 1) := by decide +kernel
theorem dL_law_857 : decode cL_law 857 = .ok (.aload_n 0, 1) := by decide +kernel
theorem dL_law_858 : decode cL_law 858 = .ok (.iload 4, 2) := by decide +kernel
theorem dL_law_860 : decode cL_law 860 = .ok (.iconst 2, 1) := by decide +kernel
theorem dL_law_861 : decode cL_law 861 = .ok (.iadd, 1) := by decide +kernel
theorem dL_law_862 : decode cL_law 862 = .ok (.iaload, 1) := by decide +kernel
theorem dL_law_863 : decode cL_law 863 = .ok (.invokevirtual 103, 3) := by decide +kernel
theorem dL_law_866 : decode cL_law 866 = .ok (.aload_n 2, 1) := by decide +kernel
theorem dL_law_867 : decode cL_law 867 = .ok (.aload_n 0, 1) := by decide +kernel
theorem dL_law_868 : decode cL_law 868 = .ok (.iload 4, 2) := by decide +kernel
theorem dL_law_870 : decode cL_law 870 = .ok (.iconst 1, 1) := by decide +kernel
theorem dL_law_871 : decode cL_law 871 = .ok (.iadd, 1) := by decide +kernel
theorem dL_law_872 : decode cL_law 872 = .ok (.iaload, 1) := by decide +kernel
theorem dL_law_873 : decode cL_law 873 = .ok (.aload_n 0, 1) := by decide +kernel
theorem dL_law_874 : decode cL_law 874 = .ok (.iload 4, 2) := by decide +kernel
theorem dL_law_876 : decode cL_law 876 = .ok (.iconst 2, 1) := by decide +kernel
theorem dL_law_877 : decode cL_law 877 = .ok (.iadd, 1) := by decide +kernel
theorem dL_law_878 : decode cL_law 878 = .ok (.iaload, 1) := by decide +kernel
theorem dL_law_879 : decode cL_law 879 = .ok (.invokevirtual 106, 3) := by decide +kernel
theorem dL_law_882 : decode cL_law 882 = .ok (.if_icmp .eq 579, 3) := by decide +kernel
theorem dL_law_887 : decode cL_law 887 = .ok (.aload_n 1, 1) := by decide +kernel
theorem dL_law_888 : decode cL_law 888 = .ok (.aload_n 0, 1) := by decide +kernel
theorem dL_law_889 : decode cL_law 889 = .ok (.iload 4, 2) := by decide +kernel
theorem dL_law_891 : decode cL_law 891 = .ok (.iconst 1, 1) := by decide +kernel
theorem dL_law_892 : decode cL_law 892 = .ok (.iadd, 1) := by decide +kernel
theorem dL_law_893 : decode cL_law 893 = .ok (.iaload, 1) := by decide +kernel
theorem dL_law_894 : decode cL_law 894 = .ok (.invokevirtual 107, 3) := by decide +kernel
theorem dL_law_897 : decode cL_law 897 = .ok (.aload_n 2, 1) := by decide +kernel
theorem dL_law_898 : decode cL_law 898 = .ok (.aload_n 0, 1) := by decide +kernel
theorem dL_law_899 : decode cL_law 899 = .ok (.iload 4, 2) := by decide +kernel
theorem dL_law_901 : decode cL_law 901 = .ok (.iconst 1, 1) := by decide +kernel
theorem dL_law_902 : decode cL_law 902 = .ok (.iadd, 1) := by decide +kernel
theorem dL_law_903 : decode cL_law 903 = .ok (.iaload, 1) := by decide +kernel
theorem dL_law_904 : decode cL_law 904 = .ok (.invokevirtual 110, 3) := by decide +kernel
theorem dL_law_907 : decode cL_law 907 = .ok (.if_icmp .eq 554, 3) := by decide +kernel
theorem dL_law_912 : decode cL_law 912 = .ok (.aload_n 1, 1) := by decide +kernel
theorem dL_law_913 : decode cL_law 913 = .ok (.aload_n 0, 1) := by decide +kernel
theorem dL_law_914 : decode cL_law 914 = .ok (.iload 4, 2) := by decide +kernel
theorem dL_law_916 : decode cL_law 916 = .ok (.iconst 1, 1) := by decide +kernel
theorem dL_law_917 : decode cL_law 917 = .ok (.iadd, 1) := by decide +kernel
theorem dL_law_918 : decode cL_law 918 = .ok (.iaload, 1) := by decide +kernel
theorem dL_law_919 : decode cL_law 919 = .ok (.aload_n 0, 1) := by decide +kernel
theorem dL_law_920 : decode cL_law 920 = .ok (.iload 4, 2) := by decide +kernel
theorem dL_law_922 : decode cL_law 922 = .ok (.iconst 2, 1) := by decide +kernel
theorem dL_law_923 : decode cL_law 923 = .ok (.iadd, 1) := by decide +kernel
theorem dL_law_924 : decode cL_law 924 = .ok (.iaload, 1) := by decide +kernel
theorem dL_law_925 : decode cL_law 925 = .ok (.invokevirtual 111, 3) := by decide +kernel
theorem dL_law_928 : decode cL_law 928 = .ok (.aload_n 2, 1) := by decide +kernel
theorem dL_law_929 : decode cL_law 929 = .ok (.aload_n 0, 1) := by decide +kernel
theorem dL_law_930 : decode cL_law 930 = .ok (.iload 4, 2) := by decide +kernel
theorem dL_law_932 : decode cL_law 932 = .ok (.iconst 1, 1) := by decide +kernel
theorem dL_law_933 : decode cL_law 933 = .ok (.iadd, 1) := by decide +kernel
theorem dL_law_934 : decode cL_law 934 = .ok (.iaload, 1) := by decide +kernel
theorem dL_law_935 : decode cL_law 935 = .ok (.aload_n 0, 1) := by decide +kernel
theorem dL_law_936 : decode cL_law 936 = .ok (.iload 4, 2) := by decide +kernel
theorem dL_law_938 : decode cL_law 938 = .ok (.iconst 2, 1) := by decide +kernel
theorem dL_law_939 : decode cL_law 939 = .ok (.iadd, 1) := by decide +kernel
theorem dL_law_940 : decode cL_law 940 = .ok (.iaload, 1) := by decide +kernel
theorem dL_law_941 : decode cL_law 941 = .ok (.invokevirtual 114, 3) := by decide +kernel
theorem dL_law_944 : decode cL_law 944 = .ok (.if_icmp .eq 517, 3) := by decide +kernel
theorem dL_law_949 : decode cL_law 949 = .ok (.aload_n 1, 1) := by decide +kernel
theorem dL_law_950 : decode cL_law 950 = .ok (.aload_n 0, 1) := by decide +kernel
theorem dL_law_951 : decode cL_law 951 = .ok (.iload 4, 2) := by decide +kernel
theorem dL_law_953 : decode cL_law 953 = .ok (.iconst 1, 1) := by decide +kernel
theorem dL_law_954 : decode cL_law 954 = .ok (.iadd, 1) := by decide +kernel
theorem dL_law_955 : decode cL_law 955 = .ok (.iaload, 1) := by decide +kernel
theorem dL_law_956 : decode cL_law 956 = .ok (.aload_n 0, 1) := by decide +kernel
theorem dL_law_957 : decode cL_law 957 = .ok (.iload 4, 2) := by decide +kernel
theorem dL_law_959 : decode cL_law 959 = .ok (.iconst 2, 1) := by decide +kernel
theorem dL_law_960 : decode cL_law 960 = .ok (.iadd, 1) := by decide +kernel
theorem dL_law_961 : decode cL_law 961 = .ok (.iaload, 1) := by decide +kernel
theorem dL_law_962 : decode cL_law 962 = .ok (.aload_n 0, 1) := by decide +kernel
theorem dL_law_963 : decode cL_law 963 = .ok (.iload 4, 2) := by decide +kernel
theorem dL_law_965 : decode cL_law 965 = .ok (.iconst 3, 1) := by decide +kernel
theorem dL_law_966 : decode cL_law 966 = .ok (.iadd, 1) := by decide +kernel
theorem dL_law_967 : decode cL_law 967 = .ok (.iaload, 1) := by decide +kernel
theorem dL_law_968 : decode cL_law 968 = .ok (.invokevirtual 115, 3) := by decide +kernel
theorem dL_law_971 : decode cL_law 971 = .ok (.aload_n 2, 1) := by decide +kernel
theorem dL_law_972 : decode cL_law 972 = .ok (.aload_n 0, 1) := by decide +kernel
theorem dL_law_973 : decode cL_law 973 = .ok (.iload 4, 2) := by decide +kernel
theorem dL_law_975 : decode cL_law 975 = .ok (.iconst 1, 1) := by decide +kernel
theorem dL_law_976 : decode cL_law 976 = .ok (.iadd, 1) := by decide +kernel
theorem dL_law_977 : decode cL_law 977 = .ok (.iaload, 1) := by decide +kernel
theorem dL_law_978 : decode cL_law 978 = .ok (.aload_n 0, 1) := by decide +kernel
theorem dL_law_979 : decode cL_law 979 = .ok (.iload 4, 2) := by decide +kernel
theorem dL_law_981 : decode cL_law 981 = .ok (.iconst 2, 1) := by decide +kernel
theorem dL_law_982 : decode cL_law 982 = .ok (.iadd, 1) := by decide +kernel
theorem dL_law_983 : decode cL_law 983 = .ok (.iaload, 1) := by decide +kernel
theorem dL_law_984 : decode cL_law 984 = .ok (.aload_n 0, 1) := by decide +kernel
theorem dL_law_985 : decode cL_law 985 = .ok (.iload 4, 2) := by decide +kernel
theorem dL_law_987 : decode cL_law 987 = .ok (.iconst 3, 1) := by decide +kernel
theorem dL_law_988 : decode cL_law 988 = .ok (.iadd, 1) := by decide +kernel
theorem dL_law_989 : decode cL_law 989 = .ok (.iaload, 1) := by decide +kernel
theorem dL_law_990 : decode cL_law 990 = .ok (.invokevirtual 118, 3) := by decide +kernel
theorem dL_law_993 : decode cL_law 993 = .ok (.if_icmp .eq 468, 3) := by decide +kernel
theorem dL_law_998 : decode cL_law 998 = .ok (.aload_n 1, 1) := by decide +kernel
theorem dL_law_999 : decode cL_law 999 = .ok (.aload_n 0, 1) := by decide +kernel
theorem dL_law_1000 : decode cL_law 1000 = .ok (.iload 4, 2) := by decide +kernel
theorem dL_law_1002 : decode cL_law 1002 = .ok (.iconst 1, 1) := by decide +kernel
theorem dL_law_1003 : decode cL_law 1003 = .ok (.iadd, 1) := by decide +kernel
theorem dL_law_1004 : decode cL_law 1004 = .ok (.iaload, 1) := by decide +kernel
theorem dL_law_1005 : decode cL_law 1005 = .ok (.aload_n 0, 1) := by decide +kernel
theorem dL_law_1006 : decode cL_law 1006 = .ok (.iload 4, 2) := by decide +kernel
theorem dL_law_1008 : decode cL_law 1008 = .ok (.iconst 2, 1) := by decide +kernel
theorem dL_law_1009 : decode cL_law 1009 = .ok (.iadd, 1) := by decide +kernel
theorem dL_law_1010 : decode cL_law 1010 = .ok (.iaload, 1) := by decide +kernel
theorem dL_law_1011 : decode cL_law 1011 = .ok (.aload_n 0, 1) := by decide +kernel
theorem dL_law_1012 : decode cL_law 1012 = .ok (.iload 4, 2) := by decide +kernel
theorem dL_law_1014 : decode cL_law 1014 = .ok (.iconst 3, 1) := by decide +kernel
theorem dL_law_1015 : decode cL_law 1015 = .ok (.iadd, 1) := by decide +kernel
theorem dL_law_1016 : decode cL_law 1016 = .ok (.iaload, 1) := by decide +kernel
theorem dL_law_1017 : decode cL_law 1017 = .ok (.aload_n 0, 1) := by decide +kernel
theorem dL_law_1018 : decode cL_law 1018 = .ok (.iload 4, 2) := by decide +kernel
theorem dL_law_1020 : decode cL_law 1020 = .ok (.iconst 4, 1) := by decide +kernel
theorem dL_law_1021 : decode cL_law 1021 = .ok (.iadd, 1) := by decide +kernel
theorem dL_law_1022 : decode cL_law 1022 = .ok (.iaload, 1) := by decide +kernel
theorem dL_law_1023 : decode cL_law 1023 = .ok (.invokevirtual 119, 3) := by decide +kernel
theorem dL_law_1026 : decode cL_law 1026 = .ok (.aload_n 2, 1) := by decide +kernel
theorem dL_law_1027 : decode cL_law 1027 = .ok (.aload_n 0, 1) := by decide +kernel
theorem dL_law_1028 : decode cL_law 1028 = .ok (.iload 4, 2) := by decide +kernel
theorem dL_law_1030 : decode cL_law 1030 = .ok (.iconst 1, 1) := by decide +kernel
theorem dL_law_1031 : decode cL_law 1031 = .ok (.iadd, 1) := by decide +kernel
theorem dL_law_1032 : decode cL_law 1032 = .ok (.iaload, 1) := by decide +kernel
theorem dL_law_1033 : decode cL_law 1033 = .ok (.aload_n 0, 1) := by decide +kernel
theorem dL_law_1034 : decode cL_law 1034 = .ok (.iload 4, 2) := by decide +kernel
theorem dL_law_1036 : decode cL_law 1036 = .ok (.iconst 2, 1) := by decide +kernel
theorem dL_law_1037 : decode cL_law 1037 = .ok (.iadd, 1) := by decide +kernel
theorem dL_law_1038 : decode cL_law 1038 = .ok (.iaload, 1) := by decide +kernel
theorem dL_law_1039 : decode cL_law 1039 = .ok (.aload_n 0, 1) := by decide +kernel
theorem dL_law_1040 : decode cL_law 1040 = .ok (.iload 4, 2) := by decide +kernel
theorem dL_law_1042 : decode cL_law 1042 = .ok (.iconst 3, 1) := by decide +kernel
theorem dL_law_1043 : decode cL_law 1043 = .ok (.iadd, 1) := by decide +kernel
theorem dL_law_1044 : decode cL_law 1044 = .ok (.iaload, 1) := by decide +kernel
theorem dL_law_1045 : decode cL_law 1045 = .ok (.aload_n 0, 1) := by decide +kernel
theorem dL_law_1046 : decode cL_law 1046 = .ok (.iload 4, 2) := by decide +kernel
theorem dL_law_1048 : decode cL_law 1048 = .ok (.iconst 4, 1) := by decide +kernel
theorem dL_law_1049 : decode cL_law 1049 = .ok (.iadd, 1) := by decide +kernel
theorem dL_law_1050 : decode cL_law 1050 = .ok (.iaload, 1) := by decide +kernel
theorem dL_law_1051 : decode cL_law 1051 = .ok (.invokevirtual 123, 3) := by decide +kernel
theorem dL_law_1054 : decode cL_law 1054 = .ok (.if_icmp .eq 407, 3) := by decide +kernel
theorem dL_law_1059 : decode cL_law 1059 = .ok (.aload_n 1, 1) := by decide +kernel
theorem dL_law_1060 : decode cL_law 1060 = .ok (.aload_n 0, 1) := by decide +kernel
theorem dL_law_1061 : decode cL_law 1061 = .ok (.iload 4, 2) := by decide +kernel
theorem dL_law_1063 : decode cL_law 1063 = .ok (.iconst 1, 1) := by decide +kernel
theorem dL_law_1064 : decode cL_law 1064 = .ok (.iadd, 1) := by decide +kernel
theorem dL_law_1065 : decode cL_law 1065 = .ok (.iaload, 1) := by decide +kernel
theorem dL_law_1066 : decode cL_law 1066 = .ok (.invokevirtual 124, 3) := by decide +kernel
theorem dL_law_1069 : decode cL_law 1069 = .ok (.aload_n 2, 1) := by decide +kernel
theorem dL_law_1070 : decode cL_law 1070 = .ok (.aload_n 0, 1) := by decide +kernel
theorem dL_law_1071 : decode cL_law 1071 = .ok (.iload 4, 2) := by decide +kernel
theorem dL_law_1073 : decode cL_law 1073 = .ok (.iconst 1, 1) := by decide +kernel
theorem dL_law_1074 : decode cL_law 1074 = .ok (.iadd, 1) := by decide +kernel
theorem dL_law_1075 : decode cL_law 1075 = .ok (.iaload, 1) := by decide +kernel
theorem dL_law_1076 : decode cL_law 1076 = .ok (.invokevirtual 127, 3) := by decide +kernel
theorem dL_law_1079 : decode cL_law 1079 = .ok (.if_icmp .eq 382, 3) := by decide +kernel
theorem dL_law_1084 : decode cL_law 1084 = .ok (.aload_n 1, 1) := by decide +kernel
theorem dL_law_1085 : decode cL_law 1085 = .ok (.aload_n 0, 1) := by decide +kernel
theorem dL_law_1086 : decode cL_law 1086 = .ok (.iload 4, 2) := by decide +kernel
theorem dL_law_1088 : decode cL_law 1088 = .ok (.iconst 1, 1) := by decide +kernel
theorem dL_law_1089 : decode cL_law 1089 = .ok (.iadd, 1) := by decide +kernel
theorem dL_law_1090 : decode cL_law 1090 = .ok (.iaload, 1) := by decide +kernel
theorem dL_law_1091 : decode cL_law 1091 = .ok (.aload_n 0, 1) := by decide +kernel
theorem dL_law_1092 : decode cL_law 1092 = .ok (.iload 4, 2) := by decide +kernel
theorem dL_law_1094 : decode cL_law 1094 = .ok (.iconst 2, 1) := by decide +kernel
theorem dL_law_1095 : decode cL_law 1095 = .ok (.iadd, 1) := by decide +kernel
theorem dL_law_1096 : decode cL_law 1096 = .ok (.iaload, 1) := by decide +kernel
theorem dL_law_1097 : decode cL_law 1097 = .ok (.invokevirtual 128, 3) := by decide +kernel
theorem dL_law_1100 : decode cL_law 1100 = .ok (.aload_n 2, 1) := by decide +kernel
theorem dL_law_1101 : decode cL_law 1101 = .ok (.aload_n 0, 1) := by decide +kernel
theorem dL_law_1102 : decode cL_law 1102 = .ok (.iload 4, 2) := by decide +kernel
theorem dL_law_1104 : decode cL_law 1104 = .ok (.iconst 1, 1) := by decide +kernel
theorem dL_law_1105 : decode cL_law 1105 = .ok (.iadd, 1) := by decide +kernel
theorem dL_law_1106 : decode cL_law 1106 = .ok (.iaload, 1) := by decide +kernel
theorem dL_law_1107 : decode cL_law 1107 = .ok (.aload_n 0, 1) := by decide +kernel
theorem dL_law_1108 : decode cL_law 1108 = .ok (.iload 4, 2) := by decide +kernel
theorem dL_law_1110 : decode cL_law 1110 = .ok (.iconst 2, 1) := by decide +kernel
theorem dL_law_1111 : decode cL_law 1111 = .ok (.iadd, 1) := by decide +kernel
theorem dL_law_1112 : decode cL_law 1112 = .ok (.iaload, 1) := by decide +kernel
theorem dL_law_1113 : decode cL_law 1113 = .ok (.invokevirtual 131, 3) := by decide +kernel
theorem dL_law_1116 : decode cL_law 1116 = .ok (.lcmp, 1) := by decide +kernel
theorem dL_law_1117 : decode cL_law 1117 = .ok (.ifCond .eq 344, 3) := by decide +kernel
theorem dL_law_1122 : decode cL_law 1122 = .ok (.aload_n 1, 1) := by decide +kernel
theorem dL_law_1123 : decode cL_law 1123 = .ok (.aload_n 0, 1) := by decide +kernel
theorem dL_law_1124 : decode cL_law 1124 = .ok (.iload 4, 2) := by decide +kernel
theorem dL_law_1126 : decode cL_law 1126 = .ok (.iconst 1, 1) := by decide +kernel
theorem dL_law_1127 : decode cL_law 1127 = .ok (.iadd, 1) := by decide +kernel
theorem dL_law_1128 : decode cL_law 1128 = .ok (.iaload, 1) := by decide +kernel
theorem dL_law_1129 : decode cL_law 1129 = .ok (.aload_n 0, 1) := by decide +kernel
theorem dL_law_1130 : decode cL_law 1130 = .ok (.iload 4, 2) := by decide +kernel
theorem dL_law_1132 : decode cL_law 1132 = .ok (.iconst 2, 1) := by decide +kernel
theorem dL_law_1133 : decode cL_law 1133 = .ok (.iadd, 1) := by decide +kernel
theorem dL_law_1134 : decode cL_law 1134 = .ok (.iaload, 1) := by decide +kernel
theorem dL_law_1135 : decode cL_law 1135 = .ok (.aload_n 0, 1) := by decide +kernel
theorem dL_law_1136 : decode cL_law 1136 = .ok (.iload 4, 2) := by decide +kernel
theorem dL_law_1138 : decode cL_law 1138 = .ok (.iconst 3, 1) := by decide +kernel
theorem dL_law_1139 : decode cL_law 1139 = .ok (.iadd, 1) := by decide +kernel
theorem dL_law_1140 : decode cL_law 1140 = .ok (.iaload, 1) := by decide +kernel
theorem dL_law_1141 : decode cL_law 1141 = .ok (.ifCond .eq 7, 3) := by decide +kernel
theorem dL_law_1144 : decode cL_law 1144 = .ok (.iconst 1, 1) := by decide +kernel
theorem dL_law_1145 : decode cL_law 1145 = .ok (.goto 4, 3) := by decide +kernel
theorem dL_law_1148 : decode cL_law 1148 = .ok (.iconst 0, 1) := by decide +kernel
theorem dL_law_1149 : decode cL_law 1149 = .ok (.invokevirtual 132, 3) := by decide +kernel
theorem dL_law_1152 : decode cL_law 1152 = .ok (.aload_n 2, 1) := by decide +kernel
theorem dL_law_1153 : decode cL_law 1153 = .ok (.aload_n 0, 1) := by decide +kernel
theorem dL_law_1154 : decode cL_law 1154 = .ok (.iload 4, 2) := by decide +kernel
theorem dL_law_1156 : decode cL_law 1156 = .ok (.iconst 1, 1) := by decide +kernel
theorem dL_law_1157 : decode cL_law 1157 = .ok (.iadd, 1) := by decide +kernel
theorem dL_law_1158 : decode cL_law 1158 = .ok (.iaload, 1) := by decide +kernel
theorem dL_law_1159 : decode cL_law 1159 = .ok (.aload_n 0, 1) := by decide +kernel
theorem dL_law_1160 : decode cL_law 1160 = .ok (.iload 4, 2) := by decide +kernel
theorem dL_law_1162 : decode cL_law 1162 = .ok (.iconst 2, 1) := by decide +kernel
theorem dL_law_1163 : decode cL_law 1163 = .ok (.iadd, 1) := by decide +kernel
theorem dL_law_1164 : decode cL_law 1164 = .ok (.iaload, 1) := by decide +kernel
theorem dL_law_1165 : decode cL_law 1165 = .ok (.aload_n 0, 1) := by decide +kernel
theorem dL_law_1166 : decode cL_law 1166 = .ok (.iload 4, 2) := by decide +kernel
theorem dL_law_1168 : decode cL_law 1168 = .ok (.iconst 3, 1) := by decide +kernel
theorem dL_law_1169 : decode cL_law 1169 = .ok (.iadd, 1) := by decide +kernel
theorem dL_law_1170 : decode cL_law 1170 = .ok (.iaload, 1) := by decide +kernel
theorem dL_law_1171 : decode cL_law 1171 = .ok (.ifCond .eq 7, 3) := by decide +kernel
theorem dL_law_1174 : decode cL_law 1174 = .ok (.iconst 1, 1) := by decide +kernel
theorem dL_law_1175 : decode cL_law 1175 = .ok (.goto 4, 3) := by decide +kernel
theorem dL_law_1178 : decode cL_law 1178 = .ok (.iconst 0, 1) := by decide +kernel
theorem dL_law_1179 : decode cL_law 1179 = .ok (.invokevirtual 136, 3) := by decide +kernel
theorem dL_law_1182 : decode cL_law 1182 = .ok (.if_icmp .eq 279, 3) := by decide +kernel
theorem dL_law_1187 : decode cL_law 1187 = .ok (.aload_n 1, 1) := by decide +kernel
theorem dL_law_1188 : decode cL_law 1188 = .ok (.aload_n 0, 1) := by decide +kernel
theorem dL_law_1189 : decode cL_law 1189 = .ok (.iload 4, 2) := by decide +kernel
theorem dL_law_1191 : decode cL_law 1191 = .ok (.iconst 1, 1) := by decide +kernel
theorem dL_law_1192 : decode cL_law 1192 = .ok (.iadd, 1) := by decide +kernel
theorem dL_law_1193 : decode cL_law 1193 = .ok (.iaload, 1) := by decide +kernel
theorem dL_law_1194 : decode cL_law 1194 = .ok (.invokevirtual 137, 3) := by decide +kernel
theorem dL_law_1197 : decode cL_law 1197 = .ok (.aload_n 2, 1) := by decide +kernel
theorem dL_law_1198 : decode cL_law 1198 = .ok (.aload_n 0, 1) := by decide +kernel
theorem dL_law_1199 : decode cL_law 1199 = .ok (.iload 4, 2) := by decide +kernel
theorem dL_law_1201 : decode cL_law 1201 = .ok (.iconst 1, 1) := by decide +kernel
theorem dL_law_1202 : decode cL_law 1202 = .ok (.iadd, 1) := by decide +kernel
theorem dL_law_1203 : decode cL_law 1203 = .ok (.iaload, 1) := by decide +kernel
theorem dL_law_1204 : decode cL_law 1204 = .ok (.invokevirtual 140, 3) := by decide +kernel
theorem dL_law_1207 : decode cL_law 1207 = .ok (.if_icmp .eq 254, 3) := by decide +kernel
theorem dL_law_1212 : decode cL_law 1212 = .ok (.aload_n 1, 1) := by decide +kernel
theorem dL_law_1213 : decode cL_law 1213 = .ok (.aload_n 0, 1) := by decide +kernel
theorem dL_law_1214 : decode cL_law 1214 = .ok (.iload 4, 2) := by decide +kernel
theorem dL_law_1216 : decode cL_law 1216 = .ok (.iconst 1, 1) := by decide +kernel
theorem dL_law_1217 : decode cL_law 1217 = .ok (.iadd, 1) := by decide +kernel
theorem dL_law_1218 : decode cL_law 1218 = .ok (.iaload, 1) := by decide +kernel
theorem dL_law_1219 : decode cL_law 1219 = .ok (.invokevirtual 141, 3) := by decide +kernel
theorem dL_law_1222 : decode cL_law 1222 = .ok (.aload_n 2, 1) := by decide +kernel
theorem dL_law_1223 : decode cL_law 1223 = .ok (.aload_n 0, 1) := by decide +kernel
theorem dL_law_1224 : decode cL_law 1224 = .ok (.iload 4, 2) := by decide +kernel
theorem dL_law_1226 : decode cL_law 1226 = .ok (.iconst 1, 1) := by decide +kernel
theorem dL_law_1227 : decode cL_law 1227 = .ok (.iadd, 1) := by decide +kernel
theorem dL_law_1228 : decode cL_law 1228 = .ok (.iaload, 1) := by decide +kernel
theorem dL_law_1229 : decode cL_law 1229 = .ok (.invokevirtual 145, 3) := by decide +kernel
theorem dL_law_1232 : decode cL_law 1232 = .ok (.if_icmp .eq 229, 3) := by decide +kernel
theorem dL_law_1237 : decode cL_law 1237 = .ok (.aload_n 1, 1) := by decide +kernel
theorem dL_law_1238 : decode cL_law 1238 = .ok (.aload_n 0, 1) := by decide +kernel
theorem dL_law_1239 : decode cL_law 1239 = .ok (.iload 4, 2) := by decide +kernel
theorem dL_law_1241 : decode cL_law 1241 = .ok (.iconst 1, 1) := by decide +kernel
theorem dL_law_1242 : decode cL_law 1242 = .ok (.iadd, 1) := by decide +kernel
theorem dL_law_1243 : decode cL_law 1243 = .ok (.iaload, 1) := by decide +kernel
theorem dL_law_1244 : decode cL_law 1244 = .ok (.invokevirtual 146, 3) := by decide +kernel
theorem dL_law_1247 : decode cL_law 1247 = .ok (.aload_n 2, 1) := by decide +kernel
theorem dL_law_1248 : decode cL_law 1248 = .ok (.aload_n 0, 1) := by decide +kernel
theorem dL_law_1249 : decode cL_law 1249 = .ok (.iload 4, 2) := by decide +kernel
theorem dL_law_1251 : decode cL_law 1251 = .ok (.iconst 1, 1) := by decide +kernel
theorem dL_law_1252 : decode cL_law 1252 = .ok (.iadd, 1) := by decide +kernel
theorem dL_law_1253 : decode cL_law 1253 = .ok (.iaload, 1) := by decide +kernel
theorem dL_law_1254 : decode cL_law 1254 = .ok (.invokevirtual 149, 3) := by decide +kernel
theorem dL_law_1257 : decode cL_law 1257 = .ok (.if_icmp .eq 204, 3) := by decide +kernel
theorem dL_law_1262 : decode cL_law 1262 = .ok (.aload_n 1, 1) := by decide +kernel
theorem dL_law_1263 : decode cL_law 1263 = .ok (.aload_n 0, 1) := by decide +kernel
theorem dL_law_1264 : decode cL_law 1264 = .ok (.iload 4, 2) := by decide +kernel
theorem dL_law_1266 : decode cL_law 1266 = .ok (.iconst 1, 1) := by decide +kernel
theorem dL_law_1267 : decode cL_law 1267 = .ok (.iadd, 1) := by decide +kernel
theorem dL_law_1268 : decode cL_law 1268 = .ok (.iaload, 1) := by decide +kernel
theorem dL_law_1269 : decode cL_law 1269 = .ok (.aload_n 0, 1) := by decide +kernel
theorem dL_law_1270 : decode cL_law 1270 = .ok (.iload 4, 2) := by decide +kernel
theorem dL_law_1272 : decode cL_law 1272 = .ok (.iconst 2, 1) := by decide +kernel
theorem dL_law_1273 : decode cL_law 1273 = .ok (.iadd, 1) := by decide +kernel
theorem dL_law_1274 : decode cL_law 1274 = .ok (.iaload, 1) := by decide +kernel
theorem dL_law_1275 : decode cL_law 1275 = .ok (.invokevirtual 150, 3) := by decide +kernel
theorem dL_law_1278 : decode cL_law 1278 = .ok (.aload_n 2, 1) := by decide +kernel
theorem dL_law_1279 : decode cL_law 1279 = .ok (.aload_n 0, 1) := by decide +kernel
theorem dL_law_1280 : decode cL_law 1280 = .ok (.iload 4, 2) := by decide +kernel
theorem dL_law_1282 : decode cL_law 1282 = .ok (.iconst 1, 1) := by decide +kernel
theorem dL_law_1283 : decode cL_law 1283 = .ok (.iadd, 1) := by decide +kernel
theorem dL_law_1284 : decode cL_law 1284 = .ok (.iaload, 1) := by decide +kernel
theorem dL_law_1285 : decode cL_law 1285 = .ok (.aload_n 0, 1) := by decide +kernel
theorem dL_law_1286 : decode cL_law 1286 = .ok (.iload 4, 2) := by decide +kernel
theorem dL_law_1288 : decode cL_law 1288 = .ok (.iconst 2, 1) := by decide +kernel
theorem dL_law_1289 : decode cL_law 1289 = .ok (.iadd, 1) := by decide +kernel
theorem dL_law_1290 : decode cL_law 1290 = .ok (.iaload, 1) := by decide +kernel
theorem dL_law_1291 : decode cL_law 1291 = .ok (.invokevirtual 153, 3) := by decide +kernel
theorem dL_law_1294 : decode cL_law 1294 = .ok (.if_icmp .eq 167, 3) := by decide +kernel
theorem dL_law_1299 : decode cL_law 1299 = .ok (.aload_n 1, 1) := by decide +kernel
theorem dL_law_1300 : decode cL_law 1300 = .ok (.aload_n 0, 1) := by decide +kernel
theorem dL_law_1301 : decode cL_law 1301 = .ok (.iload 4, 2) := by decide +kernel
theorem dL_law_1303 : decode cL_law 1303 = .ok (.iconst 1, 1) := by decide +kernel
theorem dL_law_1304 : decode cL_law 1304 = .ok (.iadd, 1) := by decide +kernel
theorem dL_law_1305 : decode cL_law 1305 = .ok (.iaload, 1) := by decide +kernel
theorem dL_law_1306 : decode cL_law 1306 = .ok (.aload_n 0, 1) := by decide +kernel
theorem dL_law_1307 : decode cL_law 1307 = .ok (.iload 4, 2) := by decide +kernel
theorem dL_law_1309 : decode cL_law 1309 = .ok (.iconst 2, 1) := by decide +kernel
theorem dL_law_1310 : decode cL_law 1310 = .ok (.iadd, 1) := by decide +kernel
theorem dL_law_1311 : decode cL_law 1311 = .ok (.iaload, 1) := by decide +kernel
theorem dL_law_1312 : decode cL_law 1312 = .ok (.aload_n 0, 1) := by decide +kernel
theorem dL_law_1313 : decode cL_law 1313 = .ok (.iload 4, 2) := by decide +kernel
theorem dL_law_1315 : decode cL_law 1315 = .ok (.iconst 3, 1) := by decide +kernel
theorem dL_law_1316 : decode cL_law 1316 = .ok (.iadd, 1) := by decide +kernel
theorem dL_law_1317 : decode cL_law 1317 = .ok (.iaload, 1) := by decide +kernel
theorem dL_law_1318 : decode cL_law 1318 = .ok (.invokevirtual 154, 3) := by decide +kernel
theorem dL_law_1321 : decode cL_law 1321 = .ok (.aload_n 2, 1) := by decide +kernel
theorem dL_law_1322 : decode cL_law 1322 = .ok (.aload_n 0, 1) := by decide +kernel
theorem dL_law_1323 : decode cL_law 1323 = .ok (.iload 4, 2) := by decide +kernel
theorem dL_law_1325 : decode cL_law 1325 = .ok (.iconst 1, 1) := by decide +kernel
theorem dL_law_1326 : decode cL_law 1326 = .ok (.iadd, 1) := by decide +kernel
theorem dL_law_1327 : decode cL_law 1327 = .ok (.iaload, 1) := by decide +kernel
theorem dL_law_1328 : decode cL_law 1328 = .ok (.aload_n 0, 1) := by decide +kernel
theorem dL_law_1329 : decode cL_law 1329 = .ok (.iload 4, 2) := by decide +kernel
theorem dL_law_1331 : decode cL_law 1331 = .ok (.iconst 2, 1) := by decide +kernel
theorem dL_law_1332 : decode cL_law 1332 = .ok (.iadd, 1) := by decide +kernel
theorem dL_law_1333 : decode cL_law 1333 = .ok (.iaload, 1) := by decide +kernel
theorem dL_law_1334 : decode cL_law 1334 = .ok (.aload_n 0, 1) := by decide +kernel
theorem dL_law_1335 : decode cL_law 1335 = .ok (.iload 4, 2) := by decide +kernel
theorem dL_law_1337 : decode cL_law 1337 = .ok (.iconst 3, 1) := by decide +kernel
theorem dL_law_1338 : decode cL_law 1338 = .ok (.iadd, 1) := by decide +kernel
theorem dL_law_1339 : decode cL_law 1339 = .ok (.iaload, 1) := by decide +kernel
theorem dL_law_1340 : decode cL_law 1340 = .ok (.invokevirtual 157, 3) := by decide +kernel
theorem dL_law_1343 : decode cL_law 1343 = .ok (.if_icmp .eq 118, 3) := by decide +kernel
theorem dL_law_1348 : decode cL_law 1348 = .ok (.aload_n 1, 1) := by decide +kernel
theorem dL_law_1349 : decode cL_law 1349 = .ok (.aload_n 0, 1) := by decide +kernel
theorem dL_law_1350 : decode cL_law 1350 = .ok (.iload 4, 2) := by decide +kernel
theorem dL_law_1352 : decode cL_law 1352 = .ok (.iconst 1, 1) := by decide +kernel
theorem dL_law_1353 : decode cL_law 1353 = .ok (.iadd, 1) := by decide +kernel
theorem dL_law_1354 : decode cL_law 1354 = .ok (.iaload, 1) := by decide +kernel
theorem dL_law_1355 : decode cL_law 1355 = .ok (.aload_n 0, 1) := by decide +kernel
theorem dL_law_1356 : decode cL_law 1356 = .ok (.iload 4, 2) := by decide +kernel
theorem dL_law_1358 : decode cL_law 1358 = .ok (.iconst 2, 1) := by decide +kernel
theorem dL_law_1359 : decode cL_law 1359 = .ok (.iadd, 1) := by decide +kernel
theorem dL_law_1360 : decode cL_law 1360 = .ok (.iaload, 1) := by decide +kernel
theorem dL_law_1361 : decode cL_law 1361 = .ok (.aload_n 0, 1) := by decide +kernel
theorem dL_law_1362 : decode cL_law 1362 = .ok (.iload 4, 2) := by decide +kernel
theorem dL_law_1364 : decode cL_law 1364 = .ok (.iconst 3, 1) := by decide +kernel
theorem dL_law_1365 : decode cL_law 1365 = .ok (.iadd, 1) := by decide +kernel
theorem dL_law_1366 : decode cL_law 1366 = .ok (.iaload, 1) := by decide +kernel
theorem dL_law_1367 : decode cL_law 1367 = .ok (.invokevirtual 158, 3) := by decide +kernel
theorem dL_law_1370 : decode cL_law 1370 = .ok (.aload_n 2, 1) := by decide +kernel
theorem dL_law_1371 : decode cL_law 1371 = .ok (.aload_n 0, 1) := by decide +kernel
theorem dL_law_1372 : decode cL_law 1372 = .ok (.iload 4, 2) := by decide +kernel
theorem dL_law_1374 : decode cL_law 1374 = .ok (.iconst 1, 1) := by decide +kernel
theorem dL_law_1375 : decode cL_law 1375 = .ok (.iadd, 1) := by decide +kernel
theorem dL_law_1376 : decode cL_law 1376 = .ok (.iaload, 1) := by decide +kernel
theorem dL_law_1377 : decode cL_law 1377 = .ok (.aload_n 0, 1) := by decide +kernel
theorem dL_law_1378 : decode cL_law 1378 = .ok (.iload 4, 2) := by decide +kernel
theorem dL_law_1380 : decode cL_law 1380 = .ok (.iconst 2, 1) := by decide +kernel
theorem dL_law_1381 : decode cL_law 1381 = .ok (.iadd, 1) := by decide +kernel
theorem dL_law_1382 : decode cL_law 1382 = .ok (.iaload, 1) := by decide +kernel
theorem dL_law_1383 : decode cL_law 1383 = .ok (.aload_n 0, 1) := by decide +kernel
theorem dL_law_1384 : decode cL_law 1384 = .ok (.iload 4, 2) := by decide +kernel
theorem dL_law_1386 : decode cL_law 1386 = .ok (.iconst 3, 1) := by decide +kernel
theorem dL_law_1387 : decode cL_law 1387 = .ok (.iadd, 1) := by decide +kernel
theorem dL_law_1388 : decode cL_law 1388 = .ok (.iaload, 1) := by decide +kernel
theorem dL_law_1389 : decode cL_law 1389 = .ok (.invokevirtual 161, 3) := by decide +kernel
theorem dL_law_1392 : decode cL_law 1392 = .ok (.if_icmp .eq 69, 3) := by decide +kernel
theorem dL_law_1397 : decode cL_law 1397 = .ok (.aload_n 1, 1) := by decide +kernel
theorem dL_law_1398 : decode cL_law 1398 = .ok (.invokevirtual 162, 3) := by decide +kernel
theorem dL_law_1401 : decode cL_law 1401 = .ok (.aload_n 2, 1) := by decide +kernel
theorem dL_law_1402 : decode cL_law 1402 = .ok (.invokevirtual 165, 3) := by decide +kernel
theorem dL_law_1405 : decode cL_law 1405 = .ok (.if_icmp .eq 56, 3) := by decide +kernel
theorem dL_law_1410 : decode cL_law 1410 = .ok (.aload_n 1, 1) := by decide +kernel
theorem dL_law_1411 : decode cL_law 1411 = .ok (.invokevirtual 166, 3) := by decide +kernel
theorem dL_law_1414 : decode cL_law 1414 = .ok (.aload_n 2, 1) := by decide +kernel
theorem dL_law_1415 : decode cL_law 1415 = .ok (.invokevirtual 169, 3) := by decide +kernel
theorem dL_law_1418 : decode cL_law 1418 = .ok (.if_icmp .eq 43, 3) := by decide +kernel
theorem dL_law_1423 : decode cL_law 1423 = .ok (.aload_n 1, 1) := by decide +kernel
theorem dL_law_1424 : decode cL_law 1424 = .ok (.invokevirtual 170, 3) := by decide +kernel
theorem dL_law_1427 : decode cL_law 1427 = .ok (.aload_n 2, 1) := by decide +kernel
theorem dL_law_1428 : decode cL_law 1428 = .ok (.invokevirtual 173, 3) := by decide +kernel
theorem dL_law_1431 : decode cL_law 1431 = .ok (.if_icmp .eq 30, 3) := by decide +kernel
theorem dL_law_1436 : decode cL_law 1436 = .ok (.aload_n 1, 1) := by decide +kernel
theorem dL_law_1437 : decode cL_law 1437 = .ok (.aload_n 0, 1) := by decide +kernel
theorem dL_law_1438 : decode cL_law 1438 = .ok (.iload 4, 2) := by decide +kernel
theorem dL_law_1440 : decode cL_law 1440 = .ok (.iconst 1, 1) := by decide +kernel
theorem dL_law_1441 : decode cL_law 1441 = .ok (.iadd, 1) := by decide +kernel
theorem dL_law_1442 : decode cL_law 1442 = .ok (.iaload, 1) := by decide +kernel
theorem dL_law_1443 : decode cL_law 1443 = .ok (.invokevirtual 174, 3) := by decide +kernel
theorem dL_law_1446 : decode cL_law 1446 = .ok (.aload_n 2, 1) := by decide +kernel
theorem dL_law_1447 : decode cL_law 1447 = .ok (.aload_n 0, 1) := by decide +kernel
theorem dL_law_1448 : decode cL_law 1448 = .ok (.iload 4, 2) := by decide +kernel
theorem dL_law_1450 : decode cL_law 1450 = .ok (.iconst 1, 1) := by decide +kernel
theorem dL_law_1451 : decode cL_law 1451 = .ok (.iadd, 1) := by decide +kernel
theorem dL_law_1452 : decode cL_law 1452 = .ok (.iaload, 1) := by decide +kernel
theorem dL_law_1453 : decode cL_law 1453 = .ok (.invokevirtual 177, 3) := by decide +kernel
theorem dL_law_1456 : decode cL_law 1456 = .ok (.if_icmp .eq 5, 3) := by decide +kernel
theorem lk_L_21 : LkV RL 21 yX11_feed cX11_feed 6 (some .int) 5 := ⟨mw_539, mw_540, ms_X11_feed, mw_1, mw_542, ⟨by decide, by decide⟩, by decide +kernel⟩
theorem lk_L_25 : LkV RL 25 yX12_feed cX12_feed 8 (some .int) 5 := ⟨mw_1553, mw_1554, ms_X12_feed, mw_17, mw_1556, ⟨by decide, by decide⟩, by decide +kernel⟩
theorem lk_L_31 : LkV RL 31 yX11_fault cX11_fault 2 (some .int) 1 := ⟨mw_717, mw_718, ms_X11_fault, mw_1, mw_720, ⟨by decide, by decide⟩, by decide +kernel⟩
theorem lk_L_34 : LkV RL 34 yX12_fault cX12_fault 2 (some .int) 1 := ⟨mw_1675, mw_1676, ms_X12_fault, mw_17, mw_1678, ⟨by decide, by decide⟩, by decide +kernel⟩
theorem lk_L_35 : LkV RL 35 yX11_named cX11_named 3 (some .int) 2 := ⟨mw_721, mw_722, ms_X11_named, mw_1, mw_724, ⟨by decide, by decide⟩, by decide +kernel⟩
theorem lk_L_38 : LkV RL 38 yX12_named cX12_named 3 (some .int) 2 := ⟨mw_1679, mw_1680, ms_X12_named, mw_17, mw_1682, ⟨by decide, by decide⟩, by decide +kernel⟩
theorem lk_L_49 : LkV RL 49 yX11_act cX11_act 3 (some .int) 2 := ⟨mw_726, mw_727, ms_X11_act, mw_1, mw_729, ⟨by decide, by decide⟩, by decide +kernel⟩
theorem lk_L_52 : LkV RL 52 yX12_act cX12_act 3 (some .int) 2 := ⟨mw_1699, mw_1700, ms_X12_act, mw_17, mw_1702, ⟨by decide, by decide⟩, by decide +kernel⟩
theorem lk_L_53 : LkV RL 53 yX11_grain cX11_grain 3 (some .int) 2 := ⟨mw_742, mw_743, ms_X11_grain, mw_1, mw_745, ⟨by decide, by decide⟩, by decide +kernel⟩
theorem lk_L_56 : LkV RL 56 yX12_grain cX12_grain 3 (some .int) 2 := ⟨mw_1707, mw_1708, ms_X12_grain, mw_17, mw_1710, ⟨by decide, by decide⟩, by decide +kernel⟩
theorem lk_L_57 : LkV RL 57 yX11_law cX11_law 3 (some .long) 2 := ⟨mw_758, mw_759, ms_X11_law, mw_1, mw_761, ⟨by decide, by decide⟩, by decide +kernel⟩
theorem lk_L_61 : LkV RL 61 yX12_law cX12_law 5 (some .long) 2 := ⟨mw_1719, mw_1720, ms_X12_law, mw_17, mw_1722, ⟨by decide, by decide⟩, by decide +kernel⟩
theorem lk_L_62 : LkV RL 62 yX11_stage cX11_stage 2 (some .int) 1 := ⟨mw_829, mw_830, ms_X11_stage, mw_1, mw_832, ⟨by decide, by decide⟩, by decide +kernel⟩
theorem lk_L_65 : LkV RL 65 yX12_stage cX12_stage 2 (some .int) 1 := ⟨mw_1765, mw_1766, ms_X12_stage, mw_17, mw_1768, ⟨by decide, by decide⟩, by decide +kernel⟩
theorem lk_L_66 : LkV RL 66 yX11_change cX11_change 3 (some .int) 2 := ⟨mw_845, mw_846, ms_X11_change, mw_1, mw_848, ⟨by decide, by decide⟩, by decide +kernel⟩
theorem lk_L_69 : LkV RL 69 yX12_change cX12_change 5 (some .int) 2 := ⟨mw_1777, mw_1778, ms_X12_change, mw_17, mw_1780, ⟨by decide, by decide⟩, by decide +kernel⟩
theorem lk_L_70 : LkV RL 70 yX11_push cX11_push 2 (some .int) 1 := ⟨mw_862, mw_863, ms_X11_push, mw_1, mw_865, ⟨by decide, by decide⟩, by decide +kernel⟩
theorem lk_L_73 : LkV RL 73 yX12_push cX12_push 2 (some .int) 1 := ⟨mw_1781, mw_1782, ms_X12_push, mw_17, mw_1784, ⟨by decide, by decide⟩, by decide +kernel⟩
theorem lk_L_74 : LkV RL 74 yX11_go cX11_go 2 (some .int) 1 := ⟨mw_877, mw_878, ms_X11_go, mw_1, mw_880, ⟨by decide, by decide⟩, by decide +kernel⟩
theorem lk_L_77 : LkV RL 77 yX12_go cX12_go 3 (some .int) 1 := ⟨mw_1789, mw_1790, ms_X12_go, mw_17, mw_1792, ⟨by decide, by decide⟩, by decide +kernel⟩
theorem lk_L_78 : LkV RL 78 yX11_ahead cX11_ahead 4 (some .int) 3 := ⟨mw_980, mw_981, ms_X11_ahead, mw_1, mw_983, ⟨by decide, by decide⟩, by decide +kernel⟩
theorem lk_L_82 : LkV RL 82 yX12_ahead cX12_ahead 4 (some .int) 3 := ⟨mw_1840, mw_1841, ms_X12_ahead, mw_17, mw_1843, ⟨by decide, by decide⟩, by decide +kernel⟩
theorem lk_L_83 : LkV RL 83 yX11_flour cX11_flour 3 (some .int) 1 := ⟨mw_992, mw_993, ms_X11_flour, mw_1, mw_995, ⟨by decide, by decide⟩, by decide +kernel⟩
theorem lk_L_86 : LkV RL 86 yX12_flour cX12_flour 3 (some .int) 1 := ⟨mw_1852, mw_1853, ms_X12_flour, mw_17, mw_1855, ⟨by decide, by decide⟩, by decide +kernel⟩
theorem lk_L_87 : LkV RL 87 yX11_bill cX11_bill 6 (some .int) 1 := ⟨mw_996, mw_997, ms_X11_bill, mw_1, mw_999, ⟨by decide, by decide⟩, by decide +kernel⟩
theorem lk_L_90 : LkV RL 90 yX12_bill cX12_bill 6 (some .int) 1 := ⟨mw_1856, mw_1857, ms_X12_bill, mw_17, mw_1859, ⟨by decide, by decide⟩, by decide +kernel⟩
theorem lk_L_91 : LkV RL 91 yX11_seats cX11_seats 5 (some .int) 2 := ⟨mw_1022, mw_1023, ms_X11_seats, mw_1, mw_1025, ⟨by decide, by decide⟩, by decide +kernel⟩
theorem lk_L_94 : LkV RL 94 yX12_seats cX12_seats 7 (some .int) 2 := ⟨mw_1878, mw_1879, ms_X12_seats, mw_17, mw_1881, ⟨by decide, by decide⟩, by decide +kernel⟩
theorem lk_L_95 : LkV RL 95 yX11_enough cX11_enough 6 (some .int) 2 := ⟨mw_1042, mw_1043, ms_X11_enough, mw_1, mw_1045, ⟨by decide, by decide⟩, by decide +kernel⟩
theorem lk_L_98 : LkV RL 98 yX12_enough cX12_enough 7 (some .int) 2 := ⟨mw_1886, mw_1887, ms_X12_enough, mw_17, mw_1889, ⟨by decide, by decide⟩, by decide +kernel⟩
theorem lk_L_99 : LkV RL 99 yX11_span cX11_span 4 (some .int) 1 := ⟨mw_1057, mw_1058, ms_X11_span, mw_1, mw_1060, ⟨by decide, by decide⟩, by decide +kernel⟩
theorem lk_L_102 : LkV RL 102 yX12_span cX12_span 4 (some .int) 1 := ⟨mw_1893, mw_1894, ms_X12_span, mw_17, mw_1896, ⟨by decide, by decide⟩, by decide +kernel⟩
theorem lk_L_103 : LkV RL 103 yX11_pushFor cX11_pushFor 4 (some .int) 2 := ⟨mw_1062, mw_1063, ms_X11_pushFor, mw_1, mw_1065, ⟨by decide, by decide⟩, by decide +kernel⟩
theorem lk_L_106 : LkV RL 106 yX12_pushFor cX12_pushFor 4 (some .int) 2 := ⟨mw_1897, mw_1898, ms_X12_pushFor, mw_17, mw_1900, ⟨by decide, by decide⟩, by decide +kernel⟩
theorem lk_L_107 : LkV RL 107 yX11_silence cX11_silence 5 (some .int) 1 := ⟨mw_1066, mw_1067, ms_X11_silence, mw_1, mw_1069, ⟨by decide, by decide⟩, by decide +kernel⟩
theorem lk_L_110 : LkV RL 110 yX12_silence cX12_silence 5 (some .int) 1 := ⟨mw_1901, mw_1902, ms_X12_silence, mw_17, mw_1904, ⟨by decide, by decide⟩, by decide +kernel⟩
theorem lk_L_111 : LkV RL 111 yX11_game cX11_game 5 (some .int) 2 := ⟨mw_1073, mw_1074, ms_X11_game, mw_1, mw_1076, ⟨by decide, by decide⟩, by decide +kernel⟩
theorem lk_L_114 : LkV RL 114 yX12_game cX12_game 5 (some .int) 2 := ⟨mw_1905, mw_1906, ms_X12_game, mw_17, mw_1908, ⟨by decide, by decide⟩, by decide +kernel⟩
theorem lk_L_115 : LkV RL 115 yX11_rests cX11_rests 6 (some .int) 3 := ⟨mw_1077, mw_1078, ms_X11_rests, mw_1, mw_1080, ⟨by decide, by decide⟩, by decide +kernel⟩
theorem lk_L_118 : LkV RL 118 yX12_rests cX12_rests 4 (some .int) 3 := ⟨mw_1909, mw_1910, ms_X12_rests, mw_17, mw_1912, ⟨by decide, by decide⟩, by decide +kernel⟩
theorem lk_L_119 : LkV RL 119 yX11_rest cX11_rest 7 (some .int) 4 := ⟨mw_1090, mw_1091, ms_X11_rest, mw_1, mw_1093, ⟨by decide, by decide⟩, by decide +kernel⟩
theorem lk_L_123 : LkV RL 123 yX12_rest cX12_rest 5 (some .int) 4 := ⟨mw_1925, mw_1926, ms_X12_rest, mw_17, mw_1928, ⟨by decide, by decide⟩, by decide +kernel⟩
theorem lk_L_124 : LkV RL 124 yX11_dearest cX11_dearest 6 (some .int) 1 := ⟨mw_1094, mw_1095, ms_X11_dearest, mw_1, mw_1097, ⟨by decide, by decide⟩, by decide +kernel⟩
theorem lk_L_127 : LkV RL 127 yX12_dearest cX12_dearest 4 (some .int) 1 := ⟨mw_1929, mw_1930, ms_X12_dearest, mw_17, mw_1932, ⟨by decide, by decide⟩, by decide +kernel⟩
theorem lk_L_128 : LkV RL 128 yX11_quiet cX11_quiet 9 (some .long) 2 := ⟨mw_1100, mw_1101, ms_X11_quiet, mw_1, mw_1103, ⟨by decide, by decide⟩, by decide +kernel⟩
theorem lk_L_131 : LkV RL 131 yX12_quiet cX12_quiet 13 (some .long) 2 := ⟨mw_1933, mw_1934, ms_X12_quiet, mw_17, mw_1936, ⟨by decide, by decide⟩, by decide +kernel⟩
theorem lk_L_132 : LkV RL 132 yX11_see cX11_see 4 (some .int) 3 := ⟨mw_1105, mw_1106, ms_X11_see, mw_1, mw_1108, ⟨by decide, by decide⟩, by decide +kernel⟩
theorem lk_L_136 : LkV RL 136 yX12_see cX12_see 4 (some .int) 3 := ⟨mw_1939, mw_1940, ms_X12_see, mw_17, mw_1942, ⟨by decide, by decide⟩, by decide +kernel⟩
theorem lk_L_137 : LkV RL 137 yX11_strike cX11_strike 2 (some .int) 1 := ⟨mw_1117, mw_1118, ms_X11_strike, mw_1, mw_1120, ⟨by decide, by decide⟩, by decide +kernel⟩
theorem lk_L_140 : LkV RL 140 yX12_strike cX12_strike 2 (some .int) 1 := ⟨mw_1947, mw_1948, ms_X12_strike, mw_17, mw_1950, ⟨by decide, by decide⟩, by decide +kernel⟩
theorem lk_L_141 : LkV RL 141 yX11_known cX11_known 2 (some .boolean) 1 := ⟨mw_1125, mw_1126, ms_X11_known, mw_1, mw_1128, ⟨by decide, by decide⟩, by decide +kernel⟩
theorem lk_L_145 : LkV RL 145 yX12_known cX12_known 2 (some .boolean) 1 := ⟨mw_1951, mw_1952, ms_X12_known, mw_17, mw_1954, ⟨by decide, by decide⟩, by decide +kernel⟩
theorem lk_L_146 : LkV RL 146 yX11_moods cX11_moods 2 (some .int) 1 := ⟨mw_1129, mw_1130, ms_X11_moods, mw_1, mw_1132, ⟨by decide, by decide⟩, by decide +kernel⟩
theorem lk_L_149 : LkV RL 149 yX12_moods cX12_moods 2 (some .int) 1 := ⟨mw_1955, mw_1956, ms_X12_moods, mw_17, mw_1958, ⟨by decide, by decide⟩, by decide +kernel⟩
theorem lk_L_150 : LkV RL 150 yX11_ask cX11_ask 8 (some .int) 2 := ⟨mw_1150, mw_1151, ms_X11_ask, mw_1, mw_1153, ⟨by decide, by decide⟩, by decide +kernel⟩
theorem lk_L_153 : LkV RL 153 yX12_ask cX12_ask 6 (some .int) 2 := ⟨mw_1979, mw_1980, ms_X12_ask, mw_17, mw_1982, ⟨by decide, by decide⟩, by decide +kernel⟩
theorem lk_L_154 : LkV RL 154 yX11_chance cX11_chance 8 (some .int) 3 := ⟨mw_1162, mw_1163, ms_X11_chance, mw_1, mw_1165, ⟨by decide, by decide⟩, by decide +kernel⟩
theorem lk_L_157 : LkV RL 157 yX12_chance cX12_chance 8 (some .int) 3 := ⟨mw_1987, mw_1988, ms_X12_chance, mw_17, mw_1990, ⟨by decide, by decide⟩, by decide +kernel⟩
theorem lk_L_158 : LkV RL 158 yX11_tried cX11_tried 5 (some .int) 3 := ⟨mw_1166, mw_1167, ms_X11_tried, mw_1, mw_1169, ⟨by decide, by decide⟩, by decide +kernel⟩
theorem lk_L_161 : LkV RL 161 yX12_tried cX12_tried 4 (some .int) 3 := ⟨mw_1991, mw_1992, ms_X12_tried, mw_17, mw_1994, ⟨by decide, by decide⟩, by decide +kernel⟩
theorem lk_L_162 : LkV RL 162 yX11_undo cX11_undo 1 (some .int) 0 := ⟨mw_958, mw_959, ms_X11_undo, mw_1, mw_961, ⟨by decide, by decide⟩, by decide +kernel⟩
theorem lk_L_165 : LkV RL 165 yX12_undo cX12_undo 1 (some .int) 0 := ⟨mw_1995, mw_1996, ms_X12_undo, mw_17, mw_1998, ⟨by decide, by decide⟩, by decide +kernel⟩
theorem lk_L_166 : LkV RL 166 yX11_keep cX11_keep 1 (some .int) 0 := ⟨mw_968, mw_969, ms_X11_keep, mw_1, mw_971, ⟨by decide, by decide⟩, by decide +kernel⟩
theorem lk_L_169 : LkV RL 169 yX12_keep cX12_keep 2 (some .int) 0 := ⟨mw_2003, mw_2004, ms_X12_keep, mw_17, mw_2006, ⟨by decide, by decide⟩, by decide +kernel⟩
theorem lk_L_170 : LkV RL 170 yX11_back cX11_back 1 (some .int) 0 := ⟨mw_976, mw_977, ms_X11_back, mw_1, mw_979, ⟨by decide, by decide⟩, by decide +kernel⟩
theorem lk_L_173 : LkV RL 173 yX12_back cX12_back 2 (some .int) 0 := ⟨mw_2007, mw_2008, ms_X12_back, mw_17, mw_2010, ⟨by decide, by decide⟩, by decide +kernel⟩
theorem lk_L_174 : LkV RL 174 yX11_count cX11_count 2 (some .int) 1 := ⟨mw_807, mw_808, ms_X11_count, mw_1, mw_810, ⟨by decide, by decide⟩, by decide +kernel⟩
theorem lk_L_177 : LkV RL 177 yX12_count cX12_count 4 (some .int) 1 := ⟨mw_2011, mw_2012, ms_X12_count, mw_17, mw_2014, ⟨by decide, by decide⟩, by decide +kernel⟩
theorem see_z {p : Program} {l : Launch} {e : Env} {R : Room} {s : State} {m : MethodId} {args : Array Value} {below : List Frame} {meth : Method} {c : Code} {H : Heap} {locs : List Loc} {cells slots : Nat} {Q : State → Prop} {cc : ByteArray} {pc : Nat} {ls : Array Slot} {rest : List Value} {x z : Int32} {o1 o2 : Int} {t1 t2 : Nat} (d0 : decode cc pc = .ok (.ifCond .eq o1, 3)) (d1 : decode cc (pc + 3) = .ok (.iconst 1, 1)) (d2 : decode cc (pc + 3 + 1) = .ok (.goto o2, 3)) (d3 : decode cc t1 = .ok (.iconst 0, 1)) (e1 : (pc : Int) + o1 = (t1 : Int)) (e2 : ((pc + 3 + 1 : Nat) : Int) + o2 = ((t1 + 1 : Nat) : Int)) (hx : p.tables.exec = Jvm.exec) (hb : c.code = cc) (hz : z = (if x = 0 then 0 else 1))
    (kk : W p l e R s m args below meth c H locs cells slots Q (F0 m (t1 + 1) ls (.int z :: rest))) : W p l e R s m args below meth c H locs cells slots Q (F0 m pc ls (.int x :: rest)) := by
  refine lv_if_eq (tgt := t1) hx hb d0 e1 (fun q => ?_) (fun q => ?_)
  · refine lv_iconst (v := 0) hx hb d3 (by decide) ?_
    rw [if_pos q] at hz
    rw [hz] at kk; exact kk
  · refine lv_iconst (v := 1) hx hb d1 (by decide) ?_
    refine lv_goto (tgt := t1 + 1) hx hb d2 e2 ?_
    rw [if_neg q] at hz
    rw [hz] at kk; exact kk
