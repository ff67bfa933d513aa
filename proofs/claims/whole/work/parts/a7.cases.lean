/-! THE LAW: its 43 cases (tools/genL.py) -/
theorem cl_C_feed : CallV RL 13 RX11 yX11_feed cX11_feed 6 (some .int) 5 := ⟨Or.inl (lw_TG 529 (by decide +kernel) (by decide +kernel)), lw_TG 530 (by decide +kernel) (by decide +kernel), lw_TG 531 (by decide +kernel) (by decide +kernel), lw_TG 1 (by decide +kernel) (by decide +kernel), lw_TG 532 (by decide +kernel) (by decide +kernel), by decide +kernel, by decide +kernel, by decide +kernel⟩
theorem cl_R_feed : CallV RL 17 RX12 yX12_feed cX12_feed 6 (some .int) 5 := ⟨Or.inl (lw_TG 1485 (by decide +kernel) (by decide +kernel)), lw_TG 1486 (by decide +kernel) (by decide +kernel), lw_TG 1487 (by decide +kernel) (by decide +kernel), lw_TG 12 (by decide +kernel) (by decide +kernel), lw_TG 1488 (by decide +kernel) (by decide +kernel), by decide +kernel, by decide +kernel, by decide +kernel⟩
theorem cl_C_end : CallV RL 18 RX11 yX11_end cX11_end 2 (some .boolean) 1 := ⟨Or.inl (lw_TG 541 (by decide +kernel) (by decide +kernel)), lw_TG 542 (by decide +kernel) (by decide +kernel), lw_TG 543 (by decide +kernel) (by decide +kernel), lw_TG 1 (by decide +kernel) (by decide +kernel), lw_TG 544 (by decide +kernel) (by decide +kernel), by decide +kernel, by decide +kernel, by decide +kernel⟩
theorem cl_R_end : CallV RL 22 RX12 yX12_end cX12_end 2 (some .boolean) 1 := ⟨Or.inl (lw_TG 1497 (by decide +kernel) (by decide +kernel)), lw_TG 1498 (by decide +kernel) (by decide +kernel), lw_TG 1499 (by decide +kernel) (by decide +kernel), lw_TG 12 (by decide +kernel) (by decide +kernel), lw_TG 1500 (by decide +kernel) (by decide +kernel), by decide +kernel, by decide +kernel, by decide +kernel⟩
theorem cl_C_disk : CallV RL 23 RX11 yX11_disk cX11_disk 3 (some .int) 0 := ⟨Or.inl (lw_TG 545 (by decide +kernel) (by decide +kernel)), lw_TG 546 (by decide +kernel) (by decide +kernel), lw_TG 547 (by decide +kernel) (by decide +kernel), lw_TG 1 (by decide +kernel) (by decide +kernel), lw_TG 548 (by decide +kernel) (by decide +kernel), by decide +kernel, by decide +kernel, by decide +kernel⟩
theorem cl_R_disk : CallV RL 27 RX12 yX12_disk cX12_disk 3 (some .int) 0 := ⟨Or.inl (lw_TG 1505 (by decide +kernel) (by decide +kernel)), lw_TG 1506 (by decide +kernel) (by decide +kernel), lw_TG 1507 (by decide +kernel) (by decide +kernel), lw_TG 12 (by decide +kernel) (by decide +kernel), lw_TG 1508 (by decide +kernel) (by decide +kernel), by decide +kernel, by decide +kernel, by decide +kernel⟩
theorem cl_C_fault : CallV RL 28 RX11 yX11_fault cX11_fault 2 (some .int) 1 := ⟨Or.inl (lw_TG 759 (by decide +kernel) (by decide +kernel)), lw_TG 760 (by decide +kernel) (by decide +kernel), lw_TG 761 (by decide +kernel) (by decide +kernel), lw_TG 1 (by decide +kernel) (by decide +kernel), lw_TG 762 (by decide +kernel) (by decide +kernel), by decide +kernel, by decide +kernel, by decide +kernel⟩
theorem cl_R_fault : CallV RL 32 RX12 yX12_fault cX12_fault 2 (some .int) 1 := ⟨Or.inl (lw_TG 1627 (by decide +kernel) (by decide +kernel)), lw_TG 1628 (by decide +kernel) (by decide +kernel), lw_TG 1629 (by decide +kernel) (by decide +kernel), lw_TG 12 (by decide +kernel) (by decide +kernel), lw_TG 1630 (by decide +kernel) (by decide +kernel), by decide +kernel, by decide +kernel, by decide +kernel⟩
theorem cl_C_has : CallV RL 33 RX11 yX11_has cX11_has 3 (some .int) 1 := ⟨Or.inl (lw_TG 763 (by decide +kernel) (by decide +kernel)), lw_TG 764 (by decide +kernel) (by decide +kernel), lw_TG 765 (by decide +kernel) (by decide +kernel), lw_TG 1 (by decide +kernel) (by decide +kernel), lw_TG 766 (by decide +kernel) (by decide +kernel), by decide +kernel, by decide +kernel, by decide +kernel⟩
theorem cl_R_has : CallV RL 36 RX12 yX12_has cX12_has 3 (some .int) 1 := ⟨Or.inl (lw_TG 1631 (by decide +kernel) (by decide +kernel)), lw_TG 1632 (by decide +kernel) (by decide +kernel), lw_TG 1633 (by decide +kernel) (by decide +kernel), lw_TG 12 (by decide +kernel) (by decide +kernel), lw_TG 1634 (by decide +kernel) (by decide +kernel), by decide +kernel, by decide +kernel, by decide +kernel⟩
theorem cl_C_letter : CallV RL 37 RX11 yX11_letter cX11_letter 3 (some .int) 2 := ⟨Or.inl (lw_TG 776 (by decide +kernel) (by decide +kernel)), lw_TG 777 (by decide +kernel) (by decide +kernel), lw_TG 778 (by decide +kernel) (by decide +kernel), lw_TG 1 (by decide +kernel) (by decide +kernel), lw_TG 779 (by decide +kernel) (by decide +kernel), by decide +kernel, by decide +kernel, by decide +kernel⟩
theorem cl_R_letter : CallV RL 41 RX12 yX12_letter cX12_letter 3 (some .int) 2 := ⟨Or.inl (lw_TG 1647 (by decide +kernel) (by decide +kernel)), lw_TG 1648 (by decide +kernel) (by decide +kernel), lw_TG 1649 (by decide +kernel) (by decide +kernel), lw_TG 12 (by decide +kernel) (by decide +kernel), lw_TG 1650 (by decide +kernel) (by decide +kernel), by decide +kernel, by decide +kernel, by decide +kernel⟩
theorem cl_C_process : CallV RL 42 RX11 yX11_process cX11_process 4 (some .int) 2 := ⟨Or.inl (lw_TG 784 (by decide +kernel) (by decide +kernel)), lw_TG 785 (by decide +kernel) (by decide +kernel), lw_TG 786 (by decide +kernel) (by decide +kernel), lw_TG 1 (by decide +kernel) (by decide +kernel), lw_TG 787 (by decide +kernel) (by decide +kernel), by decide +kernel, by decide +kernel, by decide +kernel⟩
theorem cl_R_process : CallV RL 45 RX12 yX12_process cX12_process 3 (some .int) 2 := ⟨Or.inl (lw_TG 1655 (by decide +kernel) (by decide +kernel)), lw_TG 1656 (by decide +kernel) (by decide +kernel), lw_TG 1657 (by decide +kernel) (by decide +kernel), lw_TG 12 (by decide +kernel) (by decide +kernel), lw_TG 1658 (by decide +kernel) (by decide +kernel), by decide +kernel, by decide +kernel, by decide +kernel⟩
theorem cl_C_mean : CallV RL 46 RX11 yX11_mean cX11_mean 3 (some .long) 1 := ⟨Or.inl (lw_TG 788 (by decide +kernel) (by decide +kernel)), lw_TG 789 (by decide +kernel) (by decide +kernel), lw_TG 790 (by decide +kernel) (by decide +kernel), lw_TG 1 (by decide +kernel) (by decide +kernel), lw_TG 791 (by decide +kernel) (by decide +kernel), by decide +kernel, by decide +kernel, by decide +kernel⟩
theorem cl_R_mean : CallV RL 50 RX12 yX12_mean cX12_mean 2 (some .long) 1 := ⟨Or.inl (lw_TG 1663 (by decide +kernel) (by decide +kernel)), lw_TG 1664 (by decide +kernel) (by decide +kernel), lw_TG 1665 (by decide +kernel) (by decide +kernel), lw_TG 12 (by decide +kernel) (by decide +kernel), lw_TG 1666 (by decide +kernel) (by decide +kernel), by decide +kernel, by decide +kernel, by decide +kernel⟩
theorem cl_C_queue : CallV RL 51 RX11 yX11_queue cX11_queue 4 (some .int) 2 := ⟨Or.inl (lw_TG 801 (by decide +kernel) (by decide +kernel)), lw_TG 802 (by decide +kernel) (by decide +kernel), lw_TG 803 (by decide +kernel) (by decide +kernel), lw_TG 1 (by decide +kernel) (by decide +kernel), lw_TG 804 (by decide +kernel) (by decide +kernel), by decide +kernel, by decide +kernel, by decide +kernel⟩
theorem cl_R_queue : CallV RL 54 RX12 yX12_queue cX12_queue 3 (some .int) 2 := ⟨Or.inl (lw_TG 1678 (by decide +kernel) (by decide +kernel)), lw_TG 1679 (by decide +kernel) (by decide +kernel), lw_TG 1680 (by decide +kernel) (by decide +kernel), lw_TG 12 (by decide +kernel) (by decide +kernel), lw_TG 1681 (by decide +kernel) (by decide +kernel), by decide +kernel, by decide +kernel, by decide +kernel⟩
theorem cl_C_bits : CallV RL 55 RX11 yX11_bits cX11_bits 2 (some .int) 1 := ⟨Or.inl (lw_TG 837 (by decide +kernel) (by decide +kernel)), lw_TG 838 (by decide +kernel) (by decide +kernel), lw_TG 839 (by decide +kernel) (by decide +kernel), lw_TG 1 (by decide +kernel) (by decide +kernel), lw_TG 840 (by decide +kernel) (by decide +kernel), by decide +kernel, by decide +kernel, by decide +kernel⟩
theorem cl_R_bits : CallV RL 58 RX12 yX12_bits cX12_bits 2 (some .int) 1 := ⟨Or.inl (lw_TG 1708 (by decide +kernel) (by decide +kernel)), lw_TG 1709 (by decide +kernel) (by decide +kernel), lw_TG 1710 (by decide +kernel) (by decide +kernel), lw_TG 12 (by decide +kernel) (by decide +kernel), lw_TG 1711 (by decide +kernel) (by decide +kernel), by decide +kernel, by decide +kernel, by decide +kernel⟩
theorem cl_C_request : CallV RL 59 RX11 yX11_request cX11_request 5 (some .int) 3 := ⟨Or.inl (lw_TG 845 (by decide +kernel) (by decide +kernel)), lw_TG 846 (by decide +kernel) (by decide +kernel), lw_TG 847 (by decide +kernel) (by decide +kernel), lw_TG 1 (by decide +kernel) (by decide +kernel), lw_TG 848 (by decide +kernel) (by decide +kernel), by decide +kernel, by decide +kernel, by decide +kernel⟩
theorem cl_R_request : CallV RL 63 RX12 yX12_request cX12_request 5 (some .int) 3 := ⟨Or.inl (lw_TG 1712 (by decide +kernel) (by decide +kernel)), lw_TG 1713 (by decide +kernel) (by decide +kernel), lw_TG 1714 (by decide +kernel) (by decide +kernel), lw_TG 12 (by decide +kernel) (by decide +kernel), lw_TG 1715 (by decide +kernel) (by decide +kernel), by decide +kernel, by decide +kernel, by decide +kernel⟩
theorem cl_C_next : CallV RL 64 RX11 yX11_next cX11_next 3 (some .int) 1 := ⟨Or.inl (lw_TG 856 (by decide +kernel) (by decide +kernel)), lw_TG 857 (by decide +kernel) (by decide +kernel), lw_TG 858 (by decide +kernel) (by decide +kernel), lw_TG 1 (by decide +kernel) (by decide +kernel), lw_TG 859 (by decide +kernel) (by decide +kernel), by decide +kernel, by decide +kernel, by decide +kernel⟩
theorem cl_R_next : CallV RL 67 RX12 yX12_next cX12_next 5 (some .int) 1 := ⟨Or.inl (lw_TG 1720 (by decide +kernel) (by decide +kernel)), lw_TG 1721 (by decide +kernel) (by decide +kernel), lw_TG 1722 (by decide +kernel) (by decide +kernel), lw_TG 12 (by decide +kernel) (by decide +kernel), lw_TG 1723 (by decide +kernel) (by decide +kernel), by decide +kernel, by decide +kernel, by decide +kernel⟩
theorem cl_C_kept : CallV RL 68 RX11 yX11_kept cX11_kept 3 (some .int) 2 := ⟨Or.inl (lw_TG 868 (by decide +kernel) (by decide +kernel)), lw_TG 869 (by decide +kernel) (by decide +kernel), lw_TG 870 (by decide +kernel) (by decide +kernel), lw_TG 1 (by decide +kernel) (by decide +kernel), lw_TG 871 (by decide +kernel) (by decide +kernel), by decide +kernel, by decide +kernel, by decide +kernel⟩
theorem cl_R_kept : CallV RL 71 RX12 yX12_kept cX12_kept 3 (some .int) 2 := ⟨Or.inl (lw_TG 1733 (by decide +kernel) (by decide +kernel)), lw_TG 1734 (by decide +kernel) (by decide +kernel), lw_TG 1735 (by decide +kernel) (by decide +kernel), lw_TG 12 (by decide +kernel) (by decide +kernel), lw_TG 1736 (by decide +kernel) (by decide +kernel), by decide +kernel, by decide +kernel, by decide +kernel⟩
theorem cl_C_later : CallV RL 72 RX11 yX11_later cX11_later 5 (some .int) 3 := ⟨Or.inl (lw_TG 877 (by decide +kernel) (by decide +kernel)), lw_TG 878 (by decide +kernel) (by decide +kernel), lw_TG 879 (by decide +kernel) (by decide +kernel), lw_TG 1 (by decide +kernel) (by decide +kernel), lw_TG 880 (by decide +kernel) (by decide +kernel), by decide +kernel, by decide +kernel, by decide +kernel⟩
theorem cl_R_later : CallV RL 75 RX12 yX12_later cX12_later 4 (some .int) 3 := ⟨Or.inl (lw_TG 1737 (by decide +kernel) (by decide +kernel)), lw_TG 1738 (by decide +kernel) (by decide +kernel), lw_TG 1739 (by decide +kernel) (by decide +kernel), lw_TG 12 (by decide +kernel) (by decide +kernel), lw_TG 1740 (by decide +kernel) (by decide +kernel), by decide +kernel, by decide +kernel, by decide +kernel⟩
theorem cl_C_share : CallV RL 76 RX11 yX11_share cX11_share 5 (some .int) 2 := ⟨Or.inl (lw_TG 1039 (by decide +kernel) (by decide +kernel)), lw_TG 1040 (by decide +kernel) (by decide +kernel), lw_TG 1041 (by decide +kernel) (by decide +kernel), lw_TG 1 (by decide +kernel) (by decide +kernel), lw_TG 1042 (by decide +kernel) (by decide +kernel), by decide +kernel, by decide +kernel, by decide +kernel⟩
theorem cl_R_share : CallV RL 79 RX12 yX12_share cX12_share 4 (some .int) 2 := ⟨Or.inl (lw_TG 1804 (by decide +kernel) (by decide +kernel)), lw_TG 1805 (by decide +kernel) (by decide +kernel), lw_TG 1806 (by decide +kernel) (by decide +kernel), lw_TG 12 (by decide +kernel) (by decide +kernel), lw_TG 1807 (by decide +kernel) (by decide +kernel), by decide +kernel, by decide +kernel, by decide +kernel⟩
theorem cl_C_when : CallV RL 80 RX11 yX11_when cX11_when 6 (some .int) 2 := ⟨Or.inl (lw_TG 1047 (by decide +kernel) (by decide +kernel)), lw_TG 1048 (by decide +kernel) (by decide +kernel), lw_TG 1049 (by decide +kernel) (by decide +kernel), lw_TG 1 (by decide +kernel) (by decide +kernel), lw_TG 1050 (by decide +kernel) (by decide +kernel), by decide +kernel, by decide +kernel, by decide +kernel⟩
theorem cl_R_when : CallV RL 83 RX12 yX12_when cX12_when 5 (some .int) 2 := ⟨Or.inl (lw_TG 1808 (by decide +kernel) (by decide +kernel)), lw_TG 1809 (by decide +kernel) (by decide +kernel), lw_TG 1810 (by decide +kernel) (by decide +kernel), lw_TG 12 (by decide +kernel) (by decide +kernel), lw_TG 1811 (by decide +kernel) (by decide +kernel), by decide +kernel, by decide +kernel, by decide +kernel⟩
theorem cl_C_late : CallV RL 84 RX11 yX11_late cX11_late 4 (some .int) 3 := ⟨Or.inl (lw_TG 1051 (by decide +kernel) (by decide +kernel)), lw_TG 1052 (by decide +kernel) (by decide +kernel), lw_TG 1053 (by decide +kernel) (by decide +kernel), lw_TG 1 (by decide +kernel) (by decide +kernel), lw_TG 1054 (by decide +kernel) (by decide +kernel), by decide +kernel, by decide +kernel, by decide +kernel⟩
theorem cl_R_late : CallV RL 87 RX12 yX12_late cX12_late 6 (some .int) 3 := ⟨Or.inl (lw_TG 1812 (by decide +kernel) (by decide +kernel)), lw_TG 1813 (by decide +kernel) (by decide +kernel), lw_TG 1814 (by decide +kernel) (by decide +kernel), lw_TG 12 (by decide +kernel) (by decide +kernel), lw_TG 1815 (by decide +kernel) (by decide +kernel), by decide +kernel, by decide +kernel, by decide +kernel⟩
theorem cl_C_alone : CallV RL 88 RX11 yX11_alone cX11_alone 5 (some .int) 2 := ⟨Or.inl (lw_TG 1059 (by decide +kernel) (by decide +kernel)), lw_TG 1060 (by decide +kernel) (by decide +kernel), lw_TG 1061 (by decide +kernel) (by decide +kernel), lw_TG 1 (by decide +kernel) (by decide +kernel), lw_TG 1062 (by decide +kernel) (by decide +kernel), by decide +kernel, by decide +kernel, by decide +kernel⟩
theorem cl_R_alone : CallV RL 91 RX12 yX12_alone cX12_alone 4 (some .int) 2 := ⟨Or.inl (lw_TG 1816 (by decide +kernel) (by decide +kernel)), lw_TG 1817 (by decide +kernel) (by decide +kernel), lw_TG 1818 (by decide +kernel) (by decide +kernel), lw_TG 12 (by decide +kernel) (by decide +kernel), lw_TG 1819 (by decide +kernel) (by decide +kernel), by decide +kernel, by decide +kernel, by decide +kernel⟩
theorem cl_C_idling : CallV RL 92 RX11 yX11_idling cX11_idling 7 (some .int) 2 := ⟨Or.inl (lw_TG 1063 (by decide +kernel) (by decide +kernel)), lw_TG 1064 (by decide +kernel) (by decide +kernel), lw_TG 1065 (by decide +kernel) (by decide +kernel), lw_TG 1 (by decide +kernel) (by decide +kernel), lw_TG 1066 (by decide +kernel) (by decide +kernel), by decide +kernel, by decide +kernel, by decide +kernel⟩
theorem cl_R_idling : CallV RL 95 RX12 yX12_idling cX12_idling 7 (some .int) 2 := ⟨Or.inl (lw_TG 1820 (by decide +kernel) (by decide +kernel)), lw_TG 1821 (by decide +kernel) (by decide +kernel), lw_TG 1822 (by decide +kernel) (by decide +kernel), lw_TG 12 (by decide +kernel) (by decide +kernel), lw_TG 1823 (by decide +kernel) (by decide +kernel), by decide +kernel, by decide +kernel, by decide +kernel⟩
theorem cl_C_gain : CallV RL 96 RX11 yX11_gain cX11_gain 3 (some .int) 2 := ⟨Or.inl (lw_TG 1071 (by decide +kernel) (by decide +kernel)), lw_TG 1072 (by decide +kernel) (by decide +kernel), lw_TG 1073 (by decide +kernel) (by decide +kernel), lw_TG 1 (by decide +kernel) (by decide +kernel), lw_TG 1074 (by decide +kernel) (by decide +kernel), by decide +kernel, by decide +kernel, by decide +kernel⟩
theorem cl_R_gain : CallV RL 99 RX12 yX12_gain cX12_gain 3 (some .int) 2 := ⟨Or.inl (lw_TG 1841 (by decide +kernel) (by decide +kernel)), lw_TG 1842 (by decide +kernel) (by decide +kernel), lw_TG 1843 (by decide +kernel) (by decide +kernel), lw_TG 12 (by decide +kernel) (by decide +kernel), lw_TG 1844 (by decide +kernel) (by decide +kernel), by decide +kernel, by decide +kernel, by decide +kernel⟩
theorem cl_C_apart : CallV RL 100 RX11 yX11_apart cX11_apart 7 (some .int) 1 := ⟨Or.inl (lw_TG 1075 (by decide +kernel) (by decide +kernel)), lw_TG 1076 (by decide +kernel) (by decide +kernel), lw_TG 1077 (by decide +kernel) (by decide +kernel), lw_TG 1 (by decide +kernel) (by decide +kernel), lw_TG 1078 (by decide +kernel) (by decide +kernel), by decide +kernel, by decide +kernel, by decide +kernel⟩
theorem cl_R_apart : CallV RL 103 RX12 yX12_apart cX12_apart 6 (some .int) 1 := ⟨Or.inl (lw_TG 1845 (by decide +kernel) (by decide +kernel)), lw_TG 1846 (by decide +kernel) (by decide +kernel), lw_TG 1847 (by decide +kernel) (by decide +kernel), lw_TG 12 (by decide +kernel) (by decide +kernel), lw_TG 1848 (by decide +kernel) (by decide +kernel), by decide +kernel, by decide +kernel, by decide +kernel⟩
theorem cl_C_latest : CallV RL 104 RX11 yX11_latest cX11_latest 8 (some .int) 3 := ⟨Or.inl (lw_TG 1083 (by decide +kernel) (by decide +kernel)), lw_TG 1084 (by decide +kernel) (by decide +kernel), lw_TG 1085 (by decide +kernel) (by decide +kernel), lw_TG 1 (by decide +kernel) (by decide +kernel), lw_TG 1086 (by decide +kernel) (by decide +kernel), by decide +kernel, by decide +kernel, by decide +kernel⟩
theorem cl_R_latest : CallV RL 107 RX12 yX12_latest cX12_latest 9 (some .int) 3 := ⟨Or.inl (lw_TG 1849 (by decide +kernel) (by decide +kernel)), lw_TG 1850 (by decide +kernel) (by decide +kernel), lw_TG 1851 (by decide +kernel) (by decide +kernel), lw_TG 12 (by decide +kernel) (by decide +kernel), lw_TG 1852 (by decide +kernel) (by decide +kernel), by decide +kernel, by decide +kernel, by decide +kernel⟩
theorem cl_C_least : CallV RL 108 RX11 yX11_least cX11_least 6 (some .int) 3 := ⟨Or.inl (lw_TG 1087 (by decide +kernel) (by decide +kernel)), lw_TG 1088 (by decide +kernel) (by decide +kernel), lw_TG 1089 (by decide +kernel) (by decide +kernel), lw_TG 1 (by decide +kernel) (by decide +kernel), lw_TG 1090 (by decide +kernel) (by decide +kernel), by decide +kernel, by decide +kernel, by decide +kernel⟩
theorem cl_R_least : CallV RL 111 RX12 yX12_least cX12_least 5 (some .int) 3 := ⟨Or.inl (lw_TG 1824 (by decide +kernel) (by decide +kernel)), lw_TG 1825 (by decide +kernel) (by decide +kernel), lw_TG 1826 (by decide +kernel) (by decide +kernel), lw_TG 12 (by decide +kernel) (by decide +kernel), lw_TG 1827 (by decide +kernel) (by decide +kernel), by decide +kernel, by decide +kernel, by decide +kernel⟩
theorem cl_C_expiry : CallV RL 112 RX11 yX11_expiry cX11_expiry 5 (some .int) 2 := ⟨Or.inl (lw_TG 1094 (by decide +kernel) (by decide +kernel)), lw_TG 1095 (by decide +kernel) (by decide +kernel), lw_TG 1096 (by decide +kernel) (by decide +kernel), lw_TG 1 (by decide +kernel) (by decide +kernel), lw_TG 1097 (by decide +kernel) (by decide +kernel), by decide +kernel, by decide +kernel, by decide +kernel⟩
theorem cl_R_expiry : CallV RL 115 RX12 yX12_expiry cX12_expiry 3 (some .int) 2 := ⟨Or.inl (lw_TG 1828 (by decide +kernel) (by decide +kernel)), lw_TG 1829 (by decide +kernel) (by decide +kernel), lw_TG 1830 (by decide +kernel) (by decide +kernel), lw_TG 12 (by decide +kernel) (by decide +kernel), lw_TG 1831 (by decide +kernel) (by decide +kernel), by decide +kernel, by decide +kernel, by decide +kernel⟩
theorem cl_C_worst : CallV RL 116 RX11 yX11_worst cX11_worst 5 (some .int) 2 := ⟨Or.inl (lw_TG 1098 (by decide +kernel) (by decide +kernel)), lw_TG 1099 (by decide +kernel) (by decide +kernel), lw_TG 1100 (by decide +kernel) (by decide +kernel), lw_TG 1 (by decide +kernel) (by decide +kernel), lw_TG 1101 (by decide +kernel) (by decide +kernel), by decide +kernel, by decide +kernel, by decide +kernel⟩
theorem cl_R_worst : CallV RL 119 RX12 yX12_worst cX12_worst 6 (some .int) 2 := ⟨Or.inl (lw_TG 1832 (by decide +kernel) (by decide +kernel)), lw_TG 1833 (by decide +kernel) (by decide +kernel), lw_TG 1834 (by decide +kernel) (by decide +kernel), lw_TG 12 (by decide +kernel) (by decide +kernel), lw_TG 1835 (by decide +kernel) (by decide +kernel), by decide +kernel, by decide +kernel, by decide +kernel⟩
theorem cl_C_slicing : CallV RL 120 RX11 yX11_slicing cX11_slicing 7 (some .int) 2 := ⟨Or.inl (lw_TG 1106 (by decide +kernel) (by decide +kernel)), lw_TG 1107 (by decide +kernel) (by decide +kernel), lw_TG 1108 (by decide +kernel) (by decide +kernel), lw_TG 1 (by decide +kernel) (by decide +kernel), lw_TG 1109 (by decide +kernel) (by decide +kernel), by decide +kernel, by decide +kernel, by decide +kernel⟩
theorem cl_R_slicing : CallV RL 123 RX12 yX12_slicing cX12_slicing 7 (some .int) 2 := ⟨Or.inl (lw_TG 1836 (by decide +kernel) (by decide +kernel)), lw_TG 1837 (by decide +kernel) (by decide +kernel), lw_TG 1838 (by decide +kernel) (by decide +kernel), lw_TG 12 (by decide +kernel) (by decide +kernel), lw_TG 1839 (by decide +kernel) (by decide +kernel), by decide +kernel, by decide +kernel, by decide +kernel⟩
theorem cl_C_lag : CallV RL 124 RX11 yX11_lag cX11_lag 2 (some .int) 1 := ⟨Or.inl (lw_TG 1115 (by decide +kernel) (by decide +kernel)), lw_TG 1116 (by decide +kernel) (by decide +kernel), lw_TG 1117 (by decide +kernel) (by decide +kernel), lw_TG 1 (by decide +kernel) (by decide +kernel), lw_TG 1118 (by decide +kernel) (by decide +kernel), by decide +kernel, by decide +kernel, by decide +kernel⟩
theorem cl_R_lag : CallV RL 127 RX12 yX12_lag cX12_lag 2 (some .int) 1 := ⟨Or.inl (lw_TG 1853 (by decide +kernel) (by decide +kernel)), lw_TG 1854 (by decide +kernel) (by decide +kernel), lw_TG 1855 (by decide +kernel) (by decide +kernel), lw_TG 12 (by decide +kernel) (by decide +kernel), lw_TG 1856 (by decide +kernel) (by decide +kernel), by decide +kernel, by decide +kernel, by decide +kernel⟩
theorem cl_C_see : CallV RL 128 RX11 yX11_see cX11_see 2 (some .int) 0 := ⟨Or.inl (lw_TG 1119 (by decide +kernel) (by decide +kernel)), lw_TG 1120 (by decide +kernel) (by decide +kernel), lw_TG 1121 (by decide +kernel) (by decide +kernel), lw_TG 1 (by decide +kernel) (by decide +kernel), lw_TG 1122 (by decide +kernel) (by decide +kernel), by decide +kernel, by decide +kernel, by decide +kernel⟩
theorem cl_R_see : CallV RL 131 RX12 yX12_see cX12_see 4 (some .int) 0 := ⟨Or.inl (lw_TG 1857 (by decide +kernel) (by decide +kernel)), lw_TG 1858 (by decide +kernel) (by decide +kernel), lw_TG 1859 (by decide +kernel) (by decide +kernel), lw_TG 12 (by decide +kernel) (by decide +kernel), lw_TG 1860 (by decide +kernel) (by decide +kernel), by decide +kernel, by decide +kernel, by decide +kernel⟩
theorem cl_C_fits : CallV RL 132 RX11 yX11_fits cX11_fits 1 (some .int) 0 := ⟨Or.inl (lw_TG 1131 (by decide +kernel) (by decide +kernel)), lw_TG 1132 (by decide +kernel) (by decide +kernel), lw_TG 1133 (by decide +kernel) (by decide +kernel), lw_TG 1 (by decide +kernel) (by decide +kernel), lw_TG 1134 (by decide +kernel) (by decide +kernel), by decide +kernel, by decide +kernel, by decide +kernel⟩
theorem cl_R_fits : CallV RL 135 RX12 yX12_fits cX12_fits 3 (some .int) 0 := ⟨Or.inl (lw_TG 1861 (by decide +kernel) (by decide +kernel)), lw_TG 1862 (by decide +kernel) (by decide +kernel), lw_TG 1863 (by decide +kernel) (by decide +kernel), lw_TG 12 (by decide +kernel) (by decide +kernel), lw_TG 1864 (by decide +kernel) (by decide +kernel), by decide +kernel, by decide +kernel, by decide +kernel⟩
theorem cl_C_tells : CallV RL 136 RX11 yX11_tells cX11_tells 7 (some .int) 1 := ⟨Or.inl (lw_TG 1151 (by decide +kernel) (by decide +kernel)), lw_TG 1152 (by decide +kernel) (by decide +kernel), lw_TG 1153 (by decide +kernel) (by decide +kernel), lw_TG 1 (by decide +kernel) (by decide +kernel), lw_TG 1154 (by decide +kernel) (by decide +kernel), by decide +kernel, by decide +kernel, by decide +kernel⟩
theorem cl_R_tells : CallV RL 139 RX12 yX12_tells cX12_tells 6 (some .int) 1 := ⟨Or.inl (lw_TG 1869 (by decide +kernel) (by decide +kernel)), lw_TG 1870 (by decide +kernel) (by decide +kernel), lw_TG 1871 (by decide +kernel) (by decide +kernel), lw_TG 12 (by decide +kernel) (by decide +kernel), lw_TG 1872 (by decide +kernel) (by decide +kernel), by decide +kernel, by decide +kernel, by decide +kernel⟩
theorem cl_C_ticks : CallV RL 140 RX11 yX11_ticks cX11_ticks 2 (some .int) 1 := ⟨Or.inl (lw_TG 1164 (by decide +kernel) (by decide +kernel)), lw_TG 1165 (by decide +kernel) (by decide +kernel), lw_TG 1166 (by decide +kernel) (by decide +kernel), lw_TG 1 (by decide +kernel) (by decide +kernel), lw_TG 1167 (by decide +kernel) (by decide +kernel), by decide +kernel, by decide +kernel, by decide +kernel⟩
theorem cl_R_ticks : CallV RL 143 RX12 yX12_ticks cX12_ticks 2 (some .int) 1 := ⟨Or.inl (lw_TG 1877 (by decide +kernel) (by decide +kernel)), lw_TG 1878 (by decide +kernel) (by decide +kernel), lw_TG 1879 (by decide +kernel) (by decide +kernel), lw_TG 12 (by decide +kernel) (by decide +kernel), lw_TG 1880 (by decide +kernel) (by decide +kernel), by decide +kernel, by decide +kernel, by decide +kernel⟩
theorem cl_C_ask : CallV RL 144 RX11 yX11_ask cX11_ask 4 (some .int) 3 := ⟨Or.inl (lw_TG 1186 (by decide +kernel) (by decide +kernel)), lw_TG 1187 (by decide +kernel) (by decide +kernel), lw_TG 1188 (by decide +kernel) (by decide +kernel), lw_TG 1 (by decide +kernel) (by decide +kernel), lw_TG 1189 (by decide +kernel) (by decide +kernel), by decide +kernel, by decide +kernel, by decide +kernel⟩
theorem cl_R_ask : CallV RL 147 RX12 yX12_ask cX12_ask 4 (some .int) 3 := ⟨Or.inl (lw_TG 1885 (by decide +kernel) (by decide +kernel)), lw_TG 1886 (by decide +kernel) (by decide +kernel), lw_TG 1887 (by decide +kernel) (by decide +kernel), lw_TG 12 (by decide +kernel) (by decide +kernel), lw_TG 1888 (by decide +kernel) (by decide +kernel), by decide +kernel, by decide +kernel, by decide +kernel⟩
theorem cl_C_weight : CallV RL 148 RX11 yX11_weight cX11_weight 3 (some .boolean) 2 := ⟨Or.inl (lw_TG 1195 (by decide +kernel) (by decide +kernel)), lw_TG 1196 (by decide +kernel) (by decide +kernel), lw_TG 1197 (by decide +kernel) (by decide +kernel), lw_TG 1 (by decide +kernel) (by decide +kernel), lw_TG 1198 (by decide +kernel) (by decide +kernel), by decide +kernel, by decide +kernel, by decide +kernel⟩
theorem cl_R_weight : CallV RL 152 RX12 yX12_weight cX12_weight 3 (some .boolean) 2 := ⟨Or.inl (lw_TG 1893 (by decide +kernel) (by decide +kernel)), lw_TG 1894 (by decide +kernel) (by decide +kernel), lw_TG 1895 (by decide +kernel) (by decide +kernel), lw_TG 12 (by decide +kernel) (by decide +kernel), lw_TG 1896 (by decide +kernel) (by decide +kernel), by decide +kernel, by decide +kernel, by decide +kernel⟩
theorem cl_C_idle : CallV RL 153 RX11 yX11_idle cX11_idle 2 (some .boolean) 1 := ⟨Or.inl (lw_TG 1199 (by decide +kernel) (by decide +kernel)), lw_TG 1200 (by decide +kernel) (by decide +kernel), lw_TG 1201 (by decide +kernel) (by decide +kernel), lw_TG 1 (by decide +kernel) (by decide +kernel), lw_TG 1202 (by decide +kernel) (by decide +kernel), by decide +kernel, by decide +kernel, by decide +kernel⟩
theorem cl_R_idle : CallV RL 156 RX12 yX12_idle cX12_idle 2 (some .boolean) 1 := ⟨Or.inl (lw_TG 1897 (by decide +kernel) (by decide +kernel)), lw_TG 1898 (by decide +kernel) (by decide +kernel), lw_TG 1899 (by decide +kernel) (by decide +kernel), lw_TG 12 (by decide +kernel) (by decide +kernel), lw_TG 1900 (by decide +kernel) (by decide +kernel), by decide +kernel, by decide +kernel, by decide +kernel⟩
theorem cl_C_slice : CallV RL 157 RX11 yX11_slice cX11_slice 2 (some .boolean) 1 := ⟨Or.inl (lw_TG 1203 (by decide +kernel) (by decide +kernel)), lw_TG 1204 (by decide +kernel) (by decide +kernel), lw_TG 1205 (by decide +kernel) (by decide +kernel), lw_TG 1 (by decide +kernel) (by decide +kernel), lw_TG 1206 (by decide +kernel) (by decide +kernel), by decide +kernel, by decide +kernel, by decide +kernel⟩
theorem cl_R_slice : CallV RL 160 RX12 yX12_slice cX12_slice 2 (some .boolean) 1 := ⟨Or.inl (lw_TG 1901 (by decide +kernel) (by decide +kernel)), lw_TG 1902 (by decide +kernel) (by decide +kernel), lw_TG 1903 (by decide +kernel) (by decide +kernel), lw_TG 12 (by decide +kernel) (by decide +kernel), lw_TG 1904 (by decide +kernel) (by decide +kernel), by decide +kernel, by decide +kernel, by decide +kernel⟩
theorem cl_C_on : CallV RL 161 RX11 yX11_on cX11_on 3 (some .boolean) 2 := ⟨Or.inl (lw_TG 1207 (by decide +kernel) (by decide +kernel)), lw_TG 1208 (by decide +kernel) (by decide +kernel), lw_TG 1209 (by decide +kernel) (by decide +kernel), lw_TG 1 (by decide +kernel) (by decide +kernel), lw_TG 1210 (by decide +kernel) (by decide +kernel), by decide +kernel, by decide +kernel, by decide +kernel⟩
theorem cl_R_on : CallV RL 165 RX12 yX12_on cX12_on 4 (some .boolean) 2 := ⟨Or.inl (lw_TG 1905 (by decide +kernel) (by decide +kernel)), lw_TG 1906 (by decide +kernel) (by decide +kernel), lw_TG 1907 (by decide +kernel) (by decide +kernel), lw_TG 12 (by decide +kernel) (by decide +kernel), lw_TG 1908 (by decide +kernel) (by decide +kernel), by decide +kernel, by decide +kernel, by decide +kernel⟩
theorem cl_C_chance : CallV RL 166 RX11 yX11_chance cX11_chance 3 (some .int) 1 := ⟨Or.inl (lw_TG 1211 (by decide +kernel) (by decide +kernel)), lw_TG 1212 (by decide +kernel) (by decide +kernel), lw_TG 1213 (by decide +kernel) (by decide +kernel), lw_TG 1 (by decide +kernel) (by decide +kernel), lw_TG 1214 (by decide +kernel) (by decide +kernel), by decide +kernel, by decide +kernel, by decide +kernel⟩
theorem cl_R_chance : CallV RL 169 RX12 yX12_chance cX12_chance 6 (some .int) 1 := ⟨Or.inl (lw_TG 1909 (by decide +kernel) (by decide +kernel)), lw_TG 1910 (by decide +kernel) (by decide +kernel), lw_TG 1911 (by decide +kernel) (by decide +kernel), lw_TG 12 (by decide +kernel) (by decide +kernel), lw_TG 1912 (by decide +kernel) (by decide +kernel), by decide +kernel, by decide +kernel, by decide +kernel⟩
theorem cl_C_undo : CallV RL 170 RX11 yX11_undo cX11_undo 1 (some .boolean) 0 := ⟨Or.inl (lw_TG 1227 (by decide +kernel) (by decide +kernel)), lw_TG 1228 (by decide +kernel) (by decide +kernel), lw_TG 1229 (by decide +kernel) (by decide +kernel), lw_TG 1 (by decide +kernel) (by decide +kernel), lw_TG 1230 (by decide +kernel) (by decide +kernel), by decide +kernel, by decide +kernel, by decide +kernel⟩
theorem cl_R_undo : CallV RL 174 RX12 yX12_undo cX12_undo 2 (some .boolean) 0 := ⟨Or.inl (lw_TG 1920 (by decide +kernel) (by decide +kernel)), lw_TG 1921 (by decide +kernel) (by decide +kernel), lw_TG 1922 (by decide +kernel) (by decide +kernel), lw_TG 12 (by decide +kernel) (by decide +kernel), lw_TG 1923 (by decide +kernel) (by decide +kernel), by decide +kernel, by decide +kernel, by decide +kernel⟩
theorem cl_C_seed : CallV RL 175 RX11 yX11_seed cX11_seed 2 (some .boolean) 1 := ⟨Or.inl (lw_TG 1235 (by decide +kernel) (by decide +kernel)), lw_TG 1236 (by decide +kernel) (by decide +kernel), lw_TG 1237 (by decide +kernel) (by decide +kernel), lw_TG 1 (by decide +kernel) (by decide +kernel), lw_TG 1238 (by decide +kernel) (by decide +kernel), by decide +kernel, by decide +kernel, by decide +kernel⟩
theorem cl_R_seed : CallV RL 178 RX12 yX12_seed cX12_seed 2 (some .boolean) 1 := ⟨Or.inl (lw_TG 1924 (by decide +kernel) (by decide +kernel)), lw_TG 1925 (by decide +kernel) (by decide +kernel), lw_TG 1926 (by decide +kernel) (by decide +kernel), lw_TG 12 (by decide +kernel) (by decide +kernel), lw_TG 1927 (by decide +kernel) (by decide +kernel), by decide +kernel, by decide +kernel, by decide +kernel⟩
theorem cl_C_image : CallV RL 179 RX11 yX11_image cX11_image 1 (some .int) 0 := ⟨Or.inl (lw_TG 1239 (by decide +kernel) (by decide +kernel)), lw_TG 1240 (by decide +kernel) (by decide +kernel), lw_TG 1241 (by decide +kernel) (by decide +kernel), lw_TG 1 (by decide +kernel) (by decide +kernel), lw_TG 1242 (by decide +kernel) (by decide +kernel), by decide +kernel, by decide +kernel, by decide +kernel⟩
theorem cl_R_image : CallV RL 182 RX12 yX12_image cX12_image 3 (some .int) 0 := ⟨Or.inl (lw_TG 1928 (by decide +kernel) (by decide +kernel)), lw_TG 1929 (by decide +kernel) (by decide +kernel), lw_TG 1930 (by decide +kernel) (by decide +kernel), lw_TG 12 (by decide +kernel) (by decide +kernel), lw_TG 1931 (by decide +kernel) (by decide +kernel), by decide +kernel, by decide +kernel, by decide +kernel⟩
theorem cl_C_octet : CallV RL 183 RX11 yX11_octet cX11_octet 2 (some .int) 1 := ⟨Or.inl (lw_TG 1247 (by decide +kernel) (by decide +kernel)), lw_TG 1248 (by decide +kernel) (by decide +kernel), lw_TG 1249 (by decide +kernel) (by decide +kernel), lw_TG 1 (by decide +kernel) (by decide +kernel), lw_TG 1250 (by decide +kernel) (by decide +kernel), by decide +kernel, by decide +kernel, by decide +kernel⟩
theorem cl_R_octet : CallV RL 186 RX12 yX12_octet cX12_octet 2 (some .int) 1 := ⟨Or.inl (lw_TG 1936 (by decide +kernel) (by decide +kernel)), lw_TG 1937 (by decide +kernel) (by decide +kernel), lw_TG 1938 (by decide +kernel) (by decide +kernel), lw_TG 12 (by decide +kernel) (by decide +kernel), lw_TG 1939 (by decide +kernel) (by decide +kernel), by decide +kernel, by decide +kernel, by decide +kernel⟩
theorem cl_C_take : CallV RL 187 RX11 yX11_take cX11_take 2 (some .boolean) 0 := ⟨Or.inl (lw_TG 1251 (by decide +kernel) (by decide +kernel)), lw_TG 1252 (by decide +kernel) (by decide +kernel), lw_TG 1253 (by decide +kernel) (by decide +kernel), lw_TG 1 (by decide +kernel) (by decide +kernel), lw_TG 1254 (by decide +kernel) (by decide +kernel), by decide +kernel, by decide +kernel, by decide +kernel⟩
theorem cl_R_take : CallV RL 190 RX12 yX12_take cX12_take 3 (some .boolean) 0 := ⟨Or.inl (lw_TG 1940 (by decide +kernel) (by decide +kernel)), lw_TG 1941 (by decide +kernel) (by decide +kernel), lw_TG 1942 (by decide +kernel) (by decide +kernel), lw_TG 12 (by decide +kernel) (by decide +kernel), lw_TG 1943 (by decide +kernel) (by decide +kernel), by decide +kernel, by decide +kernel, by decide +kernel⟩
theorem cl_C_status : CallV RL 191 RX11 yX11_status cX11_status 2 (some .int) 1 := ⟨Or.inl (lw_TG 1266 (by decide +kernel) (by decide +kernel)), lw_TG 1267 (by decide +kernel) (by decide +kernel), lw_TG 1268 (by decide +kernel) (by decide +kernel), lw_TG 1 (by decide +kernel) (by decide +kernel), lw_TG 1269 (by decide +kernel) (by decide +kernel), by decide +kernel, by decide +kernel, by decide +kernel⟩
theorem cl_R_status : CallV RL 194 RX12 yX12_status cX12_status 2 (some .int) 1 := ⟨Or.inl (lw_TG 1948 (by decide +kernel) (by decide +kernel)), lw_TG 1949 (by decide +kernel) (by decide +kernel), lw_TG 1950 (by decide +kernel) (by decide +kernel), lw_TG 12 (by decide +kernel) (by decide +kernel), lw_TG 1951 (by decide +kernel) (by decide +kernel), by decide +kernel, by decide +kernel, by decide +kernel⟩
section CASES
variable {E : Cx} {YR : Sys} {b L : Nat} {xs : Nat → Int32} {C R : Mm}
theorem law_feed (hE : ClOk E YR b L xs) {i n P Q : Nat} (hi : i + 6 ≤ L) (h : Rl n P Q C R) (kk : ∀ (n P Q : Nat) (C R : Mm), Rl n P Q C R → Wl E YR 1466 (lvL E YR b i) [] C R) : Wl E YR 220 (lvL E YR b i) [] C R := by
  obtain ⟨a, C', R', e1, e2, h'⟩ := feed_sim h (xs (i + 1)) (xs (i + 2)) (xs (i + 3)) (xs (i + 4)) (xs (i + 5))
  refine wl_aload_n hE 2 rfl dL_law_220 ?_
  refine wl_arg hE hi 1 1 rfl (by decide) (nA_1 i) dL_law_221 dL_law_222 dL_law_223 dL_law_224 dL_law_225 ?_
  refine wl_arg hE hi 2 2 rfl (by decide) (nA_2 i) dL_law_226 dL_law_227 dL_law_228 dL_law_229 dL_law_230 ?_
  refine wl_arg hE hi 3 3 rfl (by decide) (nA_3 i) dL_law_231 dL_law_232 dL_law_233 dL_law_234 dL_law_235 ?_
  refine wl_arg hE hi 4 4 rfl (by decide) (nA_4 i) dL_law_236 dL_law_237 dL_law_238 dL_law_239 dL_law_240 ?_
  refine wl_arg hE hi 5 5 rfl (by decide) (nA_5 i) dL_law_241 dL_law_242 dL_law_243 dL_law_244 dL_law_245 ?_
  refine wl_callC (v := some (.int a)) (C' := C') hE cl_C_feed (mC_feed hE.2.2.2.1.1 _ _ _ _ _ C (a, C') e1) rfl ⟨rfl, rfl, rfl, rfl⟩ rfl rfl dL_law_246 ?_
  refine wl_aload_n hE 1 rfl dL_law_249 ?_
  refine wl_arg hE hi 1 1 rfl (by decide) (nA_1 i) dL_law_250 dL_law_251 dL_law_252 dL_law_253 dL_law_254 ?_
  refine wl_arg hE hi 2 2 rfl (by decide) (nA_2 i) dL_law_255 dL_law_256 dL_law_257 dL_law_258 dL_law_259 ?_
  refine wl_arg hE hi 3 3 rfl (by decide) (nA_3 i) dL_law_260 dL_law_261 dL_law_262 dL_law_263 dL_law_264 ?_
  refine wl_arg hE hi 4 4 rfl (by decide) (nA_4 i) dL_law_265 dL_law_266 dL_law_267 dL_law_268 dL_law_269 ?_
  refine wl_arg hE hi 5 5 rfl (by decide) (nA_5 i) dL_law_270 dL_law_271 dL_law_272 dL_law_273 dL_law_274 ?_
  refine wl_callR (v := some (.int a)) (R' := R') hE cl_R_feed (mR_feed hE.2.2.2.2.1 _ _ _ _ _ R (a, R') e2) rfl ⟨rfl, rfl, rfl, rfl⟩ rfl rfl dL_law_275 ?_
  exact wl_same hE 1466 rfl dL_law_278 (kk _ _ _ _ _ h')
theorem law_end (hE : ClOk E YR b L xs) {i n P Q : Nat} (hi : i + 6 ≤ L) (h : Rl n P Q C R) (kk : ∀ (n P Q : Nat) (C R : Mm), Rl n P Q C R → Wl E YR 1466 (lvL E YR b i) [] C R) : Wl E YR 283 (lvL E YR b i) [] C R := by
  obtain ⟨a, C', R', e1, e2, h'⟩ := end_sim h (xs (i + 1))
  refine wl_aload_n hE 2 rfl dL_law_283 ?_
  refine wl_arg hE hi 1 1 rfl (by decide) (nA_1 i) dL_law_284 dL_law_285 dL_law_286 dL_law_287 dL_law_288 ?_
  refine wl_callC (v := some (.int a)) (C' := C') hE cl_C_end (mC_end hE.2.2.2.1.1 _ C (a, C') e1) rfl ⟨rfl, rfl, rfl, rfl⟩ rfl rfl dL_law_289 ?_
  refine wl_aload_n hE 1 rfl dL_law_292 ?_
  refine wl_arg hE hi 1 1 rfl (by decide) (nA_1 i) dL_law_293 dL_law_294 dL_law_295 dL_law_296 dL_law_297 ?_
  refine wl_callR (v := some (.int a)) (R' := R') hE cl_R_end (mR_end hE.2.2.2.2.1 _ R (a, R') e2) rfl ⟨rfl, rfl, rfl, rfl⟩ rfl rfl dL_law_298 ?_
  exact wl_same hE 1466 rfl dL_law_301 (kk _ _ _ _ _ h')
theorem law_disk (hE : ClOk E YR b L xs) {i n P Q : Nat} (hi : i + 6 ≤ L) (h : Rl n P Q C R) (kk : ∀ (n P Q : Nat) (C R : Mm), Rl n P Q C R → Wl E YR 1466 (lvL E YR b i) [] C R) : Wl E YR 306 (lvL E YR b i) [] C R := by
  obtain ⟨a, n', P', Q', C', R', e1, e2, h'⟩ := disk_sim h
  refine wl_aload_n hE 2 rfl dL_law_306 ?_
  refine wl_callC (v := some (.int a)) (C' := C') hE cl_C_disk (mC_disk hE.2.2.2.1.1 C (a, C') e1) rfl ⟨rfl, rfl, rfl, rfl⟩ rfl rfl dL_law_307 ?_
  refine wl_aload_n hE 1 rfl dL_law_310 ?_
  refine wl_callR (v := some (.int a)) (R' := R') hE cl_R_disk (mR_disk hE.2.2.2.2.1 R (a, R') e2) rfl ⟨rfl, rfl, rfl, rfl⟩ rfl rfl dL_law_311 ?_
  exact wl_same hE 1466 rfl dL_law_314 (kk _ _ _ _ _ h')
theorem law_fault (hE : ClOk E YR b L xs) {i n P Q : Nat} (hi : i + 6 ≤ L) (h : Rl n P Q C R) (kk : ∀ (n P Q : Nat) (C R : Mm), Rl n P Q C R → Wl E YR 1466 (lvL E YR b i) [] C R) : Wl E YR 319 (lvL E YR b i) [] C R := by
  obtain ⟨a, e1, e2⟩ := fault_sim h (xs (i + 1))
  refine wl_aload_n hE 2 rfl dL_law_319 ?_
  refine wl_arg hE hi 1 1 rfl (by decide) (nA_1 i) dL_law_320 dL_law_321 dL_law_322 dL_law_323 dL_law_324 ?_
  refine wl_callC (v := some (.int a)) (C' := C) hE cl_C_fault (mC_fault hE.2.2.2.1.1 _ C a e1) rfl ⟨rfl, rfl, rfl, rfl⟩ rfl rfl dL_law_325 ?_
  refine wl_aload_n hE 1 rfl dL_law_328 ?_
  refine wl_arg hE hi 1 1 rfl (by decide) (nA_1 i) dL_law_329 dL_law_330 dL_law_331 dL_law_332 dL_law_333 ?_
  refine wl_callR (v := some (.int a)) (R' := R) hE cl_R_fault (mR_fault hE.2.2.2.2.1 _ R a e2) rfl ⟨rfl, rfl, rfl, rfl⟩ rfl rfl dL_law_334 ?_
  exact wl_same hE 1466 rfl dL_law_337 (kk _ _ _ _ _ h)
theorem law_has (hE : ClOk E YR b L xs) {i n P Q : Nat} (hi : i + 6 ≤ L) (h : Rl n P Q C R) (kk : ∀ (n P Q : Nat) (C R : Mm), Rl n P Q C R → Wl E YR 1466 (lvL E YR b i) [] C R) : Wl E YR 342 (lvL E YR b i) [] C R := by
  obtain ⟨a, e1, e2⟩ := has_sim h (xs (i + 1))
  refine wl_aload_n hE 2 rfl dL_law_342 ?_
  refine wl_arg hE hi 1 1 rfl (by decide) (nA_1 i) dL_law_343 dL_law_344 dL_law_345 dL_law_346 dL_law_347 ?_
  refine wl_callC (v := some (.int a)) (C' := C) hE cl_C_has (mC_has hE.2.2.2.1.1 _ C a e1) rfl ⟨rfl, rfl, rfl, rfl⟩ rfl rfl dL_law_348 ?_
  refine wl_aload_n hE 1 rfl dL_law_351 ?_
  refine wl_arg hE hi 1 1 rfl (by decide) (nA_1 i) dL_law_352 dL_law_353 dL_law_354 dL_law_355 dL_law_356 ?_
  refine wl_callR (v := some (.int a)) (R' := (R0 R)) hE cl_R_has (mR_has hE.2.2.2.2.1 _ R (a, R0 R) e2) rfl ⟨rfl, rfl, rfl, rfl⟩ rfl rfl dL_law_357 ?_
  exact wl_same hE 1466 rfl dL_law_360 (kk _ _ _ _ _ (h.sm CSm.rf (R0_s R)))
theorem law_letter (hE : ClOk E YR b L xs) {i n P Q : Nat} (hi : i + 6 ≤ L) (h : Rl n P Q C R) (kk : ∀ (n P Q : Nat) (C R : Mm), Rl n P Q C R → Wl E YR 1466 (lvL E YR b i) [] C R) : Wl E YR 365 (lvL E YR b i) [] C R := by
  obtain ⟨a, e1, e2⟩ := letter_sim h (xs (i + 1)) (xs (i + 2))
  refine wl_aload_n hE 2 rfl dL_law_365 ?_
  refine wl_arg hE hi 1 1 rfl (by decide) (nA_1 i) dL_law_366 dL_law_367 dL_law_368 dL_law_369 dL_law_370 ?_
  refine wl_arg hE hi 2 2 rfl (by decide) (nA_2 i) dL_law_371 dL_law_372 dL_law_373 dL_law_374 dL_law_375 ?_
  refine wl_callC (v := some (.int a)) (C' := C) hE cl_C_letter (mC_letter hE.2.2.2.1.1 _ _ C a e1) rfl ⟨rfl, rfl, rfl, rfl⟩ rfl rfl dL_law_376 ?_
  refine wl_aload_n hE 1 rfl dL_law_379 ?_
  refine wl_arg hE hi 1 1 rfl (by decide) (nA_1 i) dL_law_380 dL_law_381 dL_law_382 dL_law_383 dL_law_384 ?_
  refine wl_arg hE hi 2 2 rfl (by decide) (nA_2 i) dL_law_385 dL_law_386 dL_law_387 dL_law_388 dL_law_389 ?_
  refine wl_callR (v := some (.int a)) (R' := R) hE cl_R_letter (mR_letter hE.2.2.2.2.1 _ _ R a e2) rfl ⟨rfl, rfl, rfl, rfl⟩ rfl rfl dL_law_390 ?_
  exact wl_same hE 1466 rfl dL_law_393 (kk _ _ _ _ _ h)
theorem law_process (hE : ClOk E YR b L xs) {i n P Q : Nat} (hi : i + 6 ≤ L) (h : Rl n P Q C R) (kk : ∀ (n P Q : Nat) (C R : Mm), Rl n P Q C R → Wl E YR 1466 (lvL E YR b i) [] C R) : Wl E YR 398 (lvL E YR b i) [] C R := by
  obtain ⟨a, e1, e2⟩ := process_sim h (xs (i + 1)) (xs (i + 2))
  refine wl_aload_n hE 2 rfl dL_law_398 ?_
  refine wl_arg hE hi 1 1 rfl (by decide) (nA_1 i) dL_law_399 dL_law_400 dL_law_401 dL_law_402 dL_law_403 ?_
  refine wl_arg hE hi 2 2 rfl (by decide) (nA_2 i) dL_law_404 dL_law_405 dL_law_406 dL_law_407 dL_law_408 ?_
  refine wl_callC (v := some (.int a)) (C' := C) hE cl_C_process (mC_process hE.2.2.2.1.1 _ _ C a e1) rfl ⟨rfl, rfl, rfl, rfl⟩ rfl rfl dL_law_409 ?_
  refine wl_aload_n hE 1 rfl dL_law_412 ?_
  refine wl_arg hE hi 1 1 rfl (by decide) (nA_1 i) dL_law_413 dL_law_414 dL_law_415 dL_law_416 dL_law_417 ?_
  refine wl_arg hE hi 2 2 rfl (by decide) (nA_2 i) dL_law_418 dL_law_419 dL_law_420 dL_law_421 dL_law_422 ?_
  refine wl_callR (v := some (.int a)) (R' := (R0 R)) hE cl_R_process (mR_process hE.2.2.2.2.1 _ _ R (a, R0 R) e2) rfl ⟨rfl, rfl, rfl, rfl⟩ rfl rfl dL_law_423 ?_
  exact wl_same hE 1466 rfl dL_law_426 (kk _ _ _ _ _ (h.sm CSm.rf (R0_s R)))
theorem law_mean (hE : ClOk E YR b L xs) {i n P Q : Nat} (hi : i + 6 ≤ L) (h : Rl n P Q C R) (kk : ∀ (n P Q : Nat) (C R : Mm), Rl n P Q C R → Wl E YR 1466 (lvL E YR b i) [] C R) : Wl E YR 431 (lvL E YR b i) [] C R := by
  obtain ⟨a, e1, e2⟩ := mean_sim h (xs (i + 1))
  refine wl_aload_n hE 2 rfl dL_law_431 ?_
  refine wl_arg hE hi 1 1 rfl (by decide) (nA_1 i) dL_law_432 dL_law_433 dL_law_434 dL_law_435 dL_law_436 ?_
  refine wl_callC (v := some (.long a)) (C' := C) hE cl_C_mean (mC_mean hE.2.2.2.1.1 _ C a e1) rfl ⟨rfl, rfl, rfl, rfl⟩ rfl rfl dL_law_437 ?_
  refine wl_aload_n hE 1 rfl dL_law_440 ?_
  refine wl_arg hE hi 1 1 rfl (by decide) (nA_1 i) dL_law_441 dL_law_442 dL_law_443 dL_law_444 dL_law_445 ?_
  refine wl_callR (v := some (.long a)) (R' := (R0 R)) hE cl_R_mean (mR_mean hE.2.2.2.2.1 _ R (a, R0 R) e2) rfl ⟨rfl, rfl, rfl, rfl⟩ rfl rfl dL_law_446 ?_
  refine wl_lcmp hE dL_law_449 ?_
  exact wl_if_eq hE 1466 rfl dL_law_450 (fun _ => kk _ _ _ _ _ (h.sm CSm.rf (R0_s R))) (fun hc => absurd (lg_cmp_rf _) hc)
theorem law_queue (hE : ClOk E YR b L xs) {i n P Q : Nat} (hi : i + 6 ≤ L) (h : Rl n P Q C R) (kk : ∀ (n P Q : Nat) (C R : Mm), Rl n P Q C R → Wl E YR 1466 (lvL E YR b i) [] C R) : Wl E YR 455 (lvL E YR b i) [] C R := by
  obtain ⟨a, e1, e2⟩ := queue_sim h (xs (i + 1)) (xs (i + 2))
  refine wl_aload_n hE 2 rfl dL_law_455 ?_
  refine wl_arg hE hi 1 1 rfl (by decide) (nA_1 i) dL_law_456 dL_law_457 dL_law_458 dL_law_459 dL_law_460 ?_
  refine wl_arg hE hi 2 2 rfl (by decide) (nA_2 i) dL_law_461 dL_law_462 dL_law_463 dL_law_464 dL_law_465 ?_
  refine wl_callC (v := some (.int a)) (C' := C) hE cl_C_queue (mC_queue hE.2.2.2.1.1 _ _ C a e1) rfl ⟨rfl, rfl, rfl, rfl⟩ rfl rfl dL_law_466 ?_
  refine wl_aload_n hE 1 rfl dL_law_469 ?_
  refine wl_arg hE hi 1 1 rfl (by decide) (nA_1 i) dL_law_470 dL_law_471 dL_law_472 dL_law_473 dL_law_474 ?_
  refine wl_arg hE hi 2 2 rfl (by decide) (nA_2 i) dL_law_475 dL_law_476 dL_law_477 dL_law_478 dL_law_479 ?_
  refine wl_callR (v := some (.int a)) (R' := (R0 R)) hE cl_R_queue (mR_queue hE.2.2.2.2.1 _ _ R (a, R0 R) e2) rfl ⟨rfl, rfl, rfl, rfl⟩ rfl rfl dL_law_480 ?_
  exact wl_same hE 1466 rfl dL_law_483 (kk _ _ _ _ _ (h.sm CSm.rf (R0_s R)))
theorem law_bits (hE : ClOk E YR b L xs) {i n P Q : Nat} (hi : i + 6 ≤ L) (h : Rl n P Q C R) (kk : ∀ (n P Q : Nat) (C R : Mm), Rl n P Q C R → Wl E YR 1466 (lvL E YR b i) [] C R) : Wl E YR 488 (lvL E YR b i) [] C R := by
  obtain ⟨a, e1, e2⟩ := bits_sim h (xs (i + 1))
  refine wl_aload_n hE 2 rfl dL_law_488 ?_
  refine wl_arg hE hi 1 1 rfl (by decide) (nA_1 i) dL_law_489 dL_law_490 dL_law_491 dL_law_492 dL_law_493 ?_
  refine wl_callC (v := some (.int a)) (C' := C) hE cl_C_bits (mC_bits hE.2.2.2.1.1 _ C a e1) rfl ⟨rfl, rfl, rfl, rfl⟩ rfl rfl dL_law_494 ?_
  refine wl_aload_n hE 1 rfl dL_law_497 ?_
  refine wl_arg hE hi 1 1 rfl (by decide) (nA_1 i) dL_law_498 dL_law_499 dL_law_500 dL_law_501 dL_law_502 ?_
  refine wl_callR (v := some (.int a)) (R' := (R0 R)) hE cl_R_bits (mR_bits hE.2.2.2.2.1 _ R (a, R0 R) e2) rfl ⟨rfl, rfl, rfl, rfl⟩ rfl rfl dL_law_503 ?_
  exact wl_same hE 1466 rfl dL_law_506 (kk _ _ _ _ _ (h.sm CSm.rf (R0_s R)))
theorem law_request (hE : ClOk E YR b L xs) {i n P Q : Nat} (hi : i + 6 ≤ L) (h : Rl n P Q C R) (kk : ∀ (n P Q : Nat) (C R : Mm), Rl n P Q C R → Wl E YR 1466 (lvL E YR b i) [] C R) : Wl E YR 511 (lvL E YR b i) [] C R := by
  obtain ⟨a, e1, e2⟩ := request_sim h (xs (i + 1)) (xs (i + 2)) (xs (i + 3))
  refine wl_aload_n hE 2 rfl dL_law_511 ?_
  refine wl_arg hE hi 1 1 rfl (by decide) (nA_1 i) dL_law_512 dL_law_513 dL_law_514 dL_law_515 dL_law_516 ?_
  refine wl_arg hE hi 2 2 rfl (by decide) (nA_2 i) dL_law_517 dL_law_518 dL_law_519 dL_law_520 dL_law_521 ?_
  refine wl_arg hE hi 3 3 rfl (by decide) (nA_3 i) dL_law_522 dL_law_523 dL_law_524 dL_law_525 dL_law_526 ?_
  refine wl_callC (v := some (.int a)) (C' := C) hE cl_C_request (mC_request hE.2.2.2.1.1 _ _ _ C a e1) rfl ⟨rfl, rfl, rfl, rfl⟩ rfl rfl dL_law_527 ?_
  refine wl_aload_n hE 1 rfl dL_law_530 ?_
  refine wl_arg hE hi 1 1 rfl (by decide) (nA_1 i) dL_law_531 dL_law_532 dL_law_533 dL_law_534 dL_law_535 ?_
  refine wl_arg hE hi 2 2 rfl (by decide) (nA_2 i) dL_law_536 dL_law_537 dL_law_538 dL_law_539 dL_law_540 ?_
  refine wl_arg hE hi 3 3 rfl (by decide) (nA_3 i) dL_law_541 dL_law_542 dL_law_543 dL_law_544 dL_law_545 ?_
  refine wl_callR (v := some (.int a)) (R' := (R0 R)) hE cl_R_request (mR_request hE.2.2.2.2.1 _ _ _ R (a, R0 R) e2) rfl ⟨rfl, rfl, rfl, rfl⟩ rfl rfl dL_law_546 ?_
  exact wl_same hE 1466 rfl dL_law_549 (kk _ _ _ _ _ (h.sm CSm.rf (R0_s R)))
theorem law_next (hE : ClOk E YR b L xs) {i n P Q : Nat} (hi : i + 6 ≤ L) (h : Rl n P Q C R) (kk : ∀ (n P Q : Nat) (C R : Mm), Rl n P Q C R → Wl E YR 1466 (lvL E YR b i) [] C R) : Wl E YR 554 (lvL E YR b i) [] C R := by
  obtain ⟨a, e1, e2⟩ := next_sim h (xs (i + 1))
  refine wl_aload_n hE 2 rfl dL_law_554 ?_
  refine wl_arg hE hi 1 1 rfl (by decide) (nA_1 i) dL_law_555 dL_law_556 dL_law_557 dL_law_558 dL_law_559 ?_
  refine wl_callC (v := some (.int a)) (C' := C) hE cl_C_next (mC_next hE.2.2.2.1.1 _ C a e1) rfl ⟨rfl, rfl, rfl, rfl⟩ rfl rfl dL_law_560 ?_
  refine wl_aload_n hE 1 rfl dL_law_563 ?_
  refine wl_arg hE hi 1 1 rfl (by decide) (nA_1 i) dL_law_564 dL_law_565 dL_law_566 dL_law_567 dL_law_568 ?_
  refine wl_callR (v := some (.int a)) (R' := (R0 R)) hE cl_R_next (mR_next hE.2.2.2.2.1 _ R (a, R0 R) e2) rfl ⟨rfl, rfl, rfl, rfl⟩ rfl rfl dL_law_569 ?_
  exact wl_same hE 1466 rfl dL_law_572 (kk _ _ _ _ _ (h.sm CSm.rf (R0_s R)))
theorem law_kept (hE : ClOk E YR b L xs) {i n P Q : Nat} (hi : i + 6 ≤ L) (h : Rl n P Q C R) (kk : ∀ (n P Q : Nat) (C R : Mm), Rl n P Q C R → Wl E YR 1466 (lvL E YR b i) [] C R) : Wl E YR 577 (lvL E YR b i) [] C R := by
  obtain ⟨a, e1, e2⟩ := kept_sim h (xs (i + 1)) (xs (i + 2))
  refine wl_aload_n hE 2 rfl dL_law_577 ?_
  refine wl_arg hE hi 1 1 rfl (by decide) (nA_1 i) dL_law_578 dL_law_579 dL_law_580 dL_law_581 dL_law_582 ?_
  refine wl_arg hE hi 2 2 rfl (by decide) (nA_2 i) dL_law_583 dL_law_584 dL_law_585 dL_law_586 dL_law_587 ?_
  refine wl_callC (v := some (.int a)) (C' := C) hE cl_C_kept (mC_kept hE.2.2.2.1.1 _ _ C a e1) rfl ⟨rfl, rfl, rfl, rfl⟩ rfl rfl dL_law_588 ?_
  refine wl_aload_n hE 1 rfl dL_law_591 ?_
  refine wl_arg hE hi 1 1 rfl (by decide) (nA_1 i) dL_law_592 dL_law_593 dL_law_594 dL_law_595 dL_law_596 ?_
  refine wl_arg hE hi 2 2 rfl (by decide) (nA_2 i) dL_law_597 dL_law_598 dL_law_599 dL_law_600 dL_law_601 ?_
  refine wl_callR (v := some (.int a)) (R' := (R0 R)) hE cl_R_kept (mR_kept hE.2.2.2.2.1 _ _ R (a, R0 R) e2) rfl ⟨rfl, rfl, rfl, rfl⟩ rfl rfl dL_law_602 ?_
  exact wl_same hE 1466 rfl dL_law_605 (kk _ _ _ _ _ (h.sm CSm.rf (R0_s R)))
theorem law_later (hE : ClOk E YR b L xs) {i n P Q : Nat} (hi : i + 6 ≤ L) (h : Rl n P Q C R) (kk : ∀ (n P Q : Nat) (C R : Mm), Rl n P Q C R → Wl E YR 1466 (lvL E YR b i) [] C R) : Wl E YR 610 (lvL E YR b i) [] C R := by
  obtain ⟨a, C', R', e1, e2, h'⟩ := later_sim h (xs (i + 1)) (xs (i + 2)) (xs (i + 3))
  refine wl_aload_n hE 2 rfl dL_law_610 ?_
  refine wl_arg hE hi 1 1 rfl (by decide) (nA_1 i) dL_law_611 dL_law_612 dL_law_613 dL_law_614 dL_law_615 ?_
  refine wl_arg hE hi 2 2 rfl (by decide) (nA_2 i) dL_law_616 dL_law_617 dL_law_618 dL_law_619 dL_law_620 ?_
  refine wl_arg hE hi 3 3 rfl (by decide) (nA_3 i) dL_law_621 dL_law_622 dL_law_623 dL_law_624 dL_law_625 ?_
  refine wl_callC (v := some (.int a)) (C' := C') hE cl_C_later (mC_later hE.2.2.2.1.1 _ _ _ C (a, C') e1) rfl ⟨rfl, rfl, rfl, rfl⟩ rfl rfl dL_law_626 ?_
  refine wl_aload_n hE 1 rfl dL_law_629 ?_
  refine wl_arg hE hi 1 1 rfl (by decide) (nA_1 i) dL_law_630 dL_law_631 dL_law_632 dL_law_633 dL_law_634 ?_
  refine wl_arg hE hi 2 2 rfl (by decide) (nA_2 i) dL_law_635 dL_law_636 dL_law_637 dL_law_638 dL_law_639 ?_
  refine wl_arg hE hi 3 3 rfl (by decide) (nA_3 i) dL_law_640 dL_law_641 dL_law_642 dL_law_643 dL_law_644 ?_
  refine wl_callR (v := some (.int a)) (R' := R') hE cl_R_later (mR_later hE.2.2.2.2.1 _ _ _ R (a, R') e2) rfl ⟨rfl, rfl, rfl, rfl⟩ rfl rfl dL_law_645 ?_
  exact wl_same hE 1466 rfl dL_law_648 (kk _ _ _ _ _ h')
theorem law_share (hE : ClOk E YR b L xs) {i n P Q : Nat} (hi : i + 6 ≤ L) (h : Rl n P Q C R) (kk : ∀ (n P Q : Nat) (C R : Mm), Rl n P Q C R → Wl E YR 1466 (lvL E YR b i) [] C R) : Wl E YR 653 (lvL E YR b i) [] C R := by
  obtain ⟨a, C', R', e1, e2, h'⟩ := share_sim h (xs (i + 1)) (xs (i + 2))
  refine wl_aload_n hE 2 rfl dL_law_653 ?_
  refine wl_arg hE hi 1 1 rfl (by decide) (nA_1 i) dL_law_654 dL_law_655 dL_law_656 dL_law_657 dL_law_658 ?_
  refine wl_arg hE hi 2 2 rfl (by decide) (nA_2 i) dL_law_659 dL_law_660 dL_law_661 dL_law_662 dL_law_663 ?_
  refine wl_callC (v := some (.int a)) (C' := C') hE cl_C_share (mC_share hE.2.2.2.1.1 _ _ C (a, C') e1) rfl ⟨rfl, rfl, rfl, rfl⟩ rfl rfl dL_law_664 ?_
  refine wl_aload_n hE 1 rfl dL_law_667 ?_
  refine wl_arg hE hi 1 1 rfl (by decide) (nA_1 i) dL_law_668 dL_law_669 dL_law_670 dL_law_671 dL_law_672 ?_
  refine wl_arg hE hi 2 2 rfl (by decide) (nA_2 i) dL_law_673 dL_law_674 dL_law_675 dL_law_676 dL_law_677 ?_
  refine wl_callR (v := some (.int a)) (R' := R') hE cl_R_share (mR_share hE.2.2.2.2.1 _ _ R (a, R') e2) rfl ⟨rfl, rfl, rfl, rfl⟩ rfl rfl dL_law_678 ?_
  exact wl_same hE 1466 rfl dL_law_681 (kk _ _ _ _ _ h')
theorem law_when (hE : ClOk E YR b L xs) {i n P Q : Nat} (hi : i + 6 ≤ L) (h : Rl n P Q C R) (kk : ∀ (n P Q : Nat) (C R : Mm), Rl n P Q C R → Wl E YR 1466 (lvL E YR b i) [] C R) : Wl E YR 686 (lvL E YR b i) [] C R := by
  obtain ⟨a, C', R', e1, e2, h'⟩ := when_sim h (xs (i + 1)) (xs (i + 2))
  refine wl_aload_n hE 2 rfl dL_law_686 ?_
  refine wl_arg hE hi 1 1 rfl (by decide) (nA_1 i) dL_law_687 dL_law_688 dL_law_689 dL_law_690 dL_law_691 ?_
  refine wl_arg hE hi 2 2 rfl (by decide) (nA_2 i) dL_law_692 dL_law_693 dL_law_694 dL_law_695 dL_law_696 ?_
  refine wl_callC (v := some (.int a)) (C' := C') hE cl_C_when (mC_when hE.2.2.2.1.1 _ _ C (a, C') e1) rfl ⟨rfl, rfl, rfl, rfl⟩ rfl rfl dL_law_697 ?_
  refine wl_aload_n hE 1 rfl dL_law_700 ?_
  refine wl_arg hE hi 1 1 rfl (by decide) (nA_1 i) dL_law_701 dL_law_702 dL_law_703 dL_law_704 dL_law_705 ?_
  refine wl_arg hE hi 2 2 rfl (by decide) (nA_2 i) dL_law_706 dL_law_707 dL_law_708 dL_law_709 dL_law_710 ?_
  refine wl_callR (v := some (.int a)) (R' := R') hE cl_R_when (mR_when hE.2.2.2.2.1 _ _ R (a, R') e2) rfl ⟨rfl, rfl, rfl, rfl⟩ rfl rfl dL_law_711 ?_
  exact wl_same hE 1466 rfl dL_law_714 (kk _ _ _ _ _ h')
theorem law_late (hE : ClOk E YR b L xs) {i n P Q : Nat} (hi : i + 6 ≤ L) (h : Rl n P Q C R) (kk : ∀ (n P Q : Nat) (C R : Mm), Rl n P Q C R → Wl E YR 1466 (lvL E YR b i) [] C R) : Wl E YR 719 (lvL E YR b i) [] C R := by
  obtain ⟨a, C', R', e1, e2, h'⟩ := late_sim h (xs (i + 1)) (xs (i + 2)) (xs (i + 3))
  refine wl_aload_n hE 2 rfl dL_law_719 ?_
  refine wl_arg hE hi 1 1 rfl (by decide) (nA_1 i) dL_law_720 dL_law_721 dL_law_722 dL_law_723 dL_law_724 ?_
  refine wl_arg hE hi 2 2 rfl (by decide) (nA_2 i) dL_law_725 dL_law_726 dL_law_727 dL_law_728 dL_law_729 ?_
  refine wl_arg hE hi 3 3 rfl (by decide) (nA_3 i) dL_law_730 dL_law_731 dL_law_732 dL_law_733 dL_law_734 ?_
  refine wl_callC (v := some (.int a)) (C' := C') hE cl_C_late (mC_late hE.2.2.2.1.1 _ _ _ C (a, C') e1) rfl ⟨rfl, rfl, rfl, rfl⟩ rfl rfl dL_law_735 ?_
  refine wl_aload_n hE 1 rfl dL_law_738 ?_
  refine wl_arg hE hi 1 1 rfl (by decide) (nA_1 i) dL_law_739 dL_law_740 dL_law_741 dL_law_742 dL_law_743 ?_
  refine wl_arg hE hi 2 2 rfl (by decide) (nA_2 i) dL_law_744 dL_law_745 dL_law_746 dL_law_747 dL_law_748 ?_
  refine wl_arg hE hi 3 3 rfl (by decide) (nA_3 i) dL_law_749 dL_law_750 dL_law_751 dL_law_752 dL_law_753 ?_
  refine wl_callR (v := some (.int a)) (R' := R') hE cl_R_late (mR_late hE.2.2.2.2.1 _ _ _ R (a, R') e2) rfl ⟨rfl, rfl, rfl, rfl⟩ rfl rfl dL_law_754 ?_
  exact wl_same hE 1466 rfl dL_law_757 (kk _ _ _ _ _ h')
theorem law_alone (hE : ClOk E YR b L xs) {i n P Q : Nat} (hi : i + 6 ≤ L) (h : Rl n P Q C R) (kk : ∀ (n P Q : Nat) (C R : Mm), Rl n P Q C R → Wl E YR 1466 (lvL E YR b i) [] C R) : Wl E YR 762 (lvL E YR b i) [] C R := by
  obtain ⟨a, C', R', e1, e2, h'⟩ := alone_sim h (xs (i + 1)) (xs (i + 2))
  refine wl_aload_n hE 2 rfl dL_law_762 ?_
  refine wl_arg hE hi 1 1 rfl (by decide) (nA_1 i) dL_law_763 dL_law_764 dL_law_765 dL_law_766 dL_law_767 ?_
  refine wl_arg hE hi 2 2 rfl (by decide) (nA_2 i) dL_law_768 dL_law_769 dL_law_770 dL_law_771 dL_law_772 ?_
  refine wl_callC (v := some (.int a)) (C' := C') hE cl_C_alone (mC_alone hE.2.2.2.1.1 _ _ C (a, C') e1) rfl ⟨rfl, rfl, rfl, rfl⟩ rfl rfl dL_law_773 ?_
  refine wl_aload_n hE 1 rfl dL_law_776 ?_
  refine wl_arg hE hi 1 1 rfl (by decide) (nA_1 i) dL_law_777 dL_law_778 dL_law_779 dL_law_780 dL_law_781 ?_
  refine wl_arg hE hi 2 2 rfl (by decide) (nA_2 i) dL_law_782 dL_law_783 dL_law_784 dL_law_785 dL_law_786 ?_
  refine wl_callR (v := some (.int a)) (R' := R') hE cl_R_alone (mR_alone hE.2.2.2.2.1 _ _ R (a, R') e2) rfl ⟨rfl, rfl, rfl, rfl⟩ rfl rfl dL_law_787 ?_
  exact wl_same hE 1466 rfl dL_law_790 (kk _ _ _ _ _ h')
theorem law_idling (hE : ClOk E YR b L xs) {i n P Q : Nat} (hi : i + 6 ≤ L) (h : Rl n P Q C R) (kk : ∀ (n P Q : Nat) (C R : Mm), Rl n P Q C R → Wl E YR 1466 (lvL E YR b i) [] C R) : Wl E YR 795 (lvL E YR b i) [] C R := by
  obtain ⟨a, C', R', e1, e2, h'⟩ := idling_sim h (xs (i + 1)) (xs (i + 2))
  refine wl_aload_n hE 2 rfl dL_law_795 ?_
  refine wl_arg hE hi 1 1 rfl (by decide) (nA_1 i) dL_law_796 dL_law_797 dL_law_798 dL_law_799 dL_law_800 ?_
  refine wl_arg hE hi 2 2 rfl (by decide) (nA_2 i) dL_law_801 dL_law_802 dL_law_803 dL_law_804 dL_law_805 ?_
  refine wl_callC (v := some (.int a)) (C' := C') hE cl_C_idling (mC_idling hE.2.2.2.1.1 _ _ C (a, C') e1) rfl ⟨rfl, rfl, rfl, rfl⟩ rfl rfl dL_law_806 ?_
  refine wl_aload_n hE 1 rfl dL_law_809 ?_
  refine wl_arg hE hi 1 1 rfl (by decide) (nA_1 i) dL_law_810 dL_law_811 dL_law_812 dL_law_813 dL_law_814 ?_
  refine wl_arg hE hi 2 2 rfl (by decide) (nA_2 i) dL_law_815 dL_law_816 dL_law_817 dL_law_818 dL_law_819 ?_
  refine wl_callR (v := some (.int a)) (R' := R') hE cl_R_idling (mR_idling hE.2.2.2.2.1 _ _ R (a, R') e2) rfl ⟨rfl, rfl, rfl, rfl⟩ rfl rfl dL_law_820 ?_
  exact wl_same hE 1466 rfl dL_law_823 (kk _ _ _ _ _ h')
theorem law_gain (hE : ClOk E YR b L xs) {i n P Q : Nat} (hi : i + 6 ≤ L) (h : Rl n P Q C R) (kk : ∀ (n P Q : Nat) (C R : Mm), Rl n P Q C R → Wl E YR 1466 (lvL E YR b i) [] C R) : Wl E YR 828 (lvL E YR b i) [] C R := by
  obtain ⟨a, C', R', e1, e2, h'⟩ := gain_sim h (xs (i + 1)) (xs (i + 2))
  refine wl_aload_n hE 2 rfl dL_law_828 ?_
  refine wl_arg hE hi 1 1 rfl (by decide) (nA_1 i) dL_law_829 dL_law_830 dL_law_831 dL_law_832 dL_law_833 ?_
  refine wl_arg hE hi 2 2 rfl (by decide) (nA_2 i) dL_law_834 dL_law_835 dL_law_836 dL_law_837 dL_law_838 ?_
  refine wl_callC (v := some (.int a)) (C' := C') hE cl_C_gain (mC_gain hE.2.2.2.1.1 _ _ C (a, C') e1) rfl ⟨rfl, rfl, rfl, rfl⟩ rfl rfl dL_law_839 ?_
  refine wl_aload_n hE 1 rfl dL_law_842 ?_
  refine wl_arg hE hi 1 1 rfl (by decide) (nA_1 i) dL_law_843 dL_law_844 dL_law_845 dL_law_846 dL_law_847 ?_
  refine wl_arg hE hi 2 2 rfl (by decide) (nA_2 i) dL_law_848 dL_law_849 dL_law_850 dL_law_851 dL_law_852 ?_
  refine wl_callR (v := some (.int a)) (R' := R') hE cl_R_gain (mR_gain hE.2.2.2.2.1 _ _ R (a, R') e2) rfl ⟨rfl, rfl, rfl, rfl⟩ rfl rfl dL_law_853 ?_
  exact wl_same hE 1466 rfl dL_law_856 (kk _ _ _ _ _ h')
theorem law_apart (hE : ClOk E YR b L xs) {i n P Q : Nat} (hi : i + 6 ≤ L) (h : Rl n P Q C R) (kk : ∀ (n P Q : Nat) (C R : Mm), Rl n P Q C R → Wl E YR 1466 (lvL E YR b i) [] C R) : Wl E YR 861 (lvL E YR b i) [] C R := by
  obtain ⟨a, C', R', e1, e2, h'⟩ := apart_sim h (xs (i + 1))
  refine wl_aload_n hE 2 rfl dL_law_861 ?_
  refine wl_arg hE hi 1 1 rfl (by decide) (nA_1 i) dL_law_862 dL_law_863 dL_law_864 dL_law_865 dL_law_866 ?_
  refine wl_callC (v := some (.int a)) (C' := C') hE cl_C_apart (mC_apart hE.2.2.2.1.1 _ C (a, C') e1) rfl ⟨rfl, rfl, rfl, rfl⟩ rfl rfl dL_law_867 ?_
  refine wl_aload_n hE 1 rfl dL_law_870 ?_
  refine wl_arg hE hi 1 1 rfl (by decide) (nA_1 i) dL_law_871 dL_law_872 dL_law_873 dL_law_874 dL_law_875 ?_
  refine wl_callR (v := some (.int a)) (R' := R') hE cl_R_apart (mR_apart hE.2.2.2.2.1 _ R (a, R') e2) rfl ⟨rfl, rfl, rfl, rfl⟩ rfl rfl dL_law_876 ?_
  exact wl_same hE 1466 rfl dL_law_879 (kk _ _ _ _ _ h')
theorem law_latest (hE : ClOk E YR b L xs) {i n P Q : Nat} (hi : i + 6 ≤ L) (h : Rl n P Q C R) (kk : ∀ (n P Q : Nat) (C R : Mm), Rl n P Q C R → Wl E YR 1466 (lvL E YR b i) [] C R) : Wl E YR 884 (lvL E YR b i) [] C R := by
  obtain ⟨a, C', R', e1, e2, h'⟩ := latest_sim h (xs (i + 1)) (xs (i + 2)) (xs (i + 3))
  refine wl_aload_n hE 2 rfl dL_law_884 ?_
  refine wl_arg hE hi 1 1 rfl (by decide) (nA_1 i) dL_law_885 dL_law_886 dL_law_887 dL_law_888 dL_law_889 ?_
  refine wl_arg hE hi 2 2 rfl (by decide) (nA_2 i) dL_law_890 dL_law_891 dL_law_892 dL_law_893 dL_law_894 ?_
  refine wl_arg hE hi 3 3 rfl (by decide) (nA_3 i) dL_law_895 dL_law_896 dL_law_897 dL_law_898 dL_law_899 ?_
  refine wl_callC (v := some (.int a)) (C' := C') hE cl_C_latest (mC_latest hE.2.2.2.1.1 _ _ _ C (a, C') e1) rfl ⟨rfl, rfl, rfl, rfl⟩ rfl rfl dL_law_900 ?_
  refine wl_aload_n hE 1 rfl dL_law_903 ?_
  refine wl_arg hE hi 1 1 rfl (by decide) (nA_1 i) dL_law_904 dL_law_905 dL_law_906 dL_law_907 dL_law_908 ?_
  refine wl_arg hE hi 2 2 rfl (by decide) (nA_2 i) dL_law_909 dL_law_910 dL_law_911 dL_law_912 dL_law_913 ?_
  refine wl_arg hE hi 3 3 rfl (by decide) (nA_3 i) dL_law_914 dL_law_915 dL_law_916 dL_law_917 dL_law_918 ?_
  refine wl_callR (v := some (.int a)) (R' := R') hE cl_R_latest (mR_latest hE.2.2.2.2.1 _ _ _ R (a, R') e2) rfl ⟨rfl, rfl, rfl, rfl⟩ rfl rfl dL_law_919 ?_
  exact wl_same hE 1466 rfl dL_law_922 (kk _ _ _ _ _ h')
theorem law_least (hE : ClOk E YR b L xs) {i n P Q : Nat} (hi : i + 6 ≤ L) (h : Rl n P Q C R) (kk : ∀ (n P Q : Nat) (C R : Mm), Rl n P Q C R → Wl E YR 1466 (lvL E YR b i) [] C R) : Wl E YR 927 (lvL E YR b i) [] C R := by
  obtain ⟨a, C', R', e1, e2, h'⟩ := least_sim h (xs (i + 1)) (xs (i + 2)) (xs (i + 3))
  refine wl_aload_n hE 2 rfl dL_law_927 ?_
  refine wl_arg hE hi 1 1 rfl (by decide) (nA_1 i) dL_law_928 dL_law_929 dL_law_930 dL_law_931 dL_law_932 ?_
  refine wl_arg hE hi 2 2 rfl (by decide) (nA_2 i) dL_law_933 dL_law_934 dL_law_935 dL_law_936 dL_law_937 ?_
  refine wl_arg hE hi 3 3 rfl (by decide) (nA_3 i) dL_law_938 dL_law_939 dL_law_940 dL_law_941 dL_law_942 ?_
  refine wl_callC (v := some (.int a)) (C' := C') hE cl_C_least (mC_least hE.2.2.2.1.1 _ _ _ C (a, C') e1) rfl ⟨rfl, rfl, rfl, rfl⟩ rfl rfl dL_law_943 ?_
  refine wl_aload_n hE 1 rfl dL_law_946 ?_
  refine wl_arg hE hi 1 1 rfl (by decide) (nA_1 i) dL_law_947 dL_law_948 dL_law_949 dL_law_950 dL_law_951 ?_
  refine wl_arg hE hi 2 2 rfl (by decide) (nA_2 i) dL_law_952 dL_law_953 dL_law_954 dL_law_955 dL_law_956 ?_
  refine wl_arg hE hi 3 3 rfl (by decide) (nA_3 i) dL_law_957 dL_law_958 dL_law_959 dL_law_960 dL_law_961 ?_
  refine wl_callR (v := some (.int a)) (R' := R') hE cl_R_least (mR_least hE.2.2.2.2.1 _ _ _ R (a, R') e2) rfl ⟨rfl, rfl, rfl, rfl⟩ rfl rfl dL_law_962 ?_
  exact wl_same hE 1466 rfl dL_law_965 (kk _ _ _ _ _ h')
theorem law_expiry (hE : ClOk E YR b L xs) {i n P Q : Nat} (hi : i + 6 ≤ L) (h : Rl n P Q C R) (kk : ∀ (n P Q : Nat) (C R : Mm), Rl n P Q C R → Wl E YR 1466 (lvL E YR b i) [] C R) : Wl E YR 970 (lvL E YR b i) [] C R := by
  obtain ⟨a, C', R', e1, e2, h'⟩ := expiry_sim h (xs (i + 1)) (xs (i + 2))
  refine wl_aload_n hE 2 rfl dL_law_970 ?_
  refine wl_arg hE hi 1 1 rfl (by decide) (nA_1 i) dL_law_971 dL_law_972 dL_law_973 dL_law_974 dL_law_975 ?_
  refine wl_arg hE hi 2 2 rfl (by decide) (nA_2 i) dL_law_976 dL_law_977 dL_law_978 dL_law_979 dL_law_980 ?_
  refine wl_callC (v := some (.int a)) (C' := C') hE cl_C_expiry (mC_expiry hE.2.2.2.1.1 _ _ C (a, C') e1) rfl ⟨rfl, rfl, rfl, rfl⟩ rfl rfl dL_law_981 ?_
  refine wl_aload_n hE 1 rfl dL_law_984 ?_
  refine wl_arg hE hi 1 1 rfl (by decide) (nA_1 i) dL_law_985 dL_law_986 dL_law_987 dL_law_988 dL_law_989 ?_
  refine wl_arg hE hi 2 2 rfl (by decide) (nA_2 i) dL_law_990 dL_law_991 dL_law_992 dL_law_993 dL_law_994 ?_
  refine wl_callR (v := some (.int a)) (R' := R') hE cl_R_expiry (mR_expiry hE.2.2.2.2.1 _ _ R (a, R') e2) rfl ⟨rfl, rfl, rfl, rfl⟩ rfl rfl dL_law_995 ?_
  exact wl_same hE 1466 rfl dL_law_998 (kk _ _ _ _ _ h')
theorem law_worst (hE : ClOk E YR b L xs) {i n P Q : Nat} (hi : i + 6 ≤ L) (h : Rl n P Q C R) (kk : ∀ (n P Q : Nat) (C R : Mm), Rl n P Q C R → Wl E YR 1466 (lvL E YR b i) [] C R) : Wl E YR 1003 (lvL E YR b i) [] C R := by
  obtain ⟨a, C', R', e1, e2, h'⟩ := worst_sim h (xs (i + 1)) (xs (i + 2))
  refine wl_aload_n hE 2 rfl dL_law_1003 ?_
  refine wl_arg hE hi 1 1 rfl (by decide) (nA_1 i) dL_law_1004 dL_law_1005 dL_law_1006 dL_law_1007 dL_law_1008 ?_
  refine wl_arg hE hi 2 2 rfl (by decide) (nA_2 i) dL_law_1009 dL_law_1010 dL_law_1011 dL_law_1012 dL_law_1013 ?_
  refine wl_callC (v := some (.int a)) (C' := C') hE cl_C_worst (mC_worst hE.2.2.2.1.1 _ _ C (a, C') e1) rfl ⟨rfl, rfl, rfl, rfl⟩ rfl rfl dL_law_1014 ?_
  refine wl_aload_n hE 1 rfl dL_law_1017 ?_
  refine wl_arg hE hi 1 1 rfl (by decide) (nA_1 i) dL_law_1018 dL_law_1019 dL_law_1020 dL_law_1021 dL_law_1022 ?_
  refine wl_arg hE hi 2 2 rfl (by decide) (nA_2 i) dL_law_1023 dL_law_1024 dL_law_1025 dL_law_1026 dL_law_1027 ?_
  refine wl_callR (v := some (.int a)) (R' := R') hE cl_R_worst (mR_worst hE.2.2.2.2.1 _ _ R (a, R') e2) rfl ⟨rfl, rfl, rfl, rfl⟩ rfl rfl dL_law_1028 ?_
  exact wl_same hE 1466 rfl dL_law_1031 (kk _ _ _ _ _ h')
theorem law_slicing (hE : ClOk E YR b L xs) {i n P Q : Nat} (hi : i + 6 ≤ L) (h : Rl n P Q C R) (kk : ∀ (n P Q : Nat) (C R : Mm), Rl n P Q C R → Wl E YR 1466 (lvL E YR b i) [] C R) : Wl E YR 1036 (lvL E YR b i) [] C R := by
  obtain ⟨a, C', R', e1, e2, h'⟩ := slicing_sim h (xs (i + 1)) (xs (i + 2))
  refine wl_aload_n hE 2 rfl dL_law_1036 ?_
  refine wl_arg hE hi 1 1 rfl (by decide) (nA_1 i) dL_law_1037 dL_law_1038 dL_law_1039 dL_law_1040 dL_law_1041 ?_
  refine wl_arg hE hi 2 2 rfl (by decide) (nA_2 i) dL_law_1042 dL_law_1043 dL_law_1044 dL_law_1045 dL_law_1046 ?_
  refine wl_callC (v := some (.int a)) (C' := C') hE cl_C_slicing (mC_slicing hE.2.2.2.1.1 _ _ C (a, C') e1) rfl ⟨rfl, rfl, rfl, rfl⟩ rfl rfl dL_law_1047 ?_
  refine wl_aload_n hE 1 rfl dL_law_1050 ?_
  refine wl_arg hE hi 1 1 rfl (by decide) (nA_1 i) dL_law_1051 dL_law_1052 dL_law_1053 dL_law_1054 dL_law_1055 ?_
  refine wl_arg hE hi 2 2 rfl (by decide) (nA_2 i) dL_law_1056 dL_law_1057 dL_law_1058 dL_law_1059 dL_law_1060 ?_
  refine wl_callR (v := some (.int a)) (R' := R') hE cl_R_slicing (mR_slicing hE.2.2.2.2.1 _ _ R (a, R') e2) rfl ⟨rfl, rfl, rfl, rfl⟩ rfl rfl dL_law_1061 ?_
  exact wl_same hE 1466 rfl dL_law_1064 (kk _ _ _ _ _ h')
theorem law_lag (hE : ClOk E YR b L xs) {i n P Q : Nat} (hi : i + 6 ≤ L) (h : Rl n P Q C R) (kk : ∀ (n P Q : Nat) (C R : Mm), Rl n P Q C R → Wl E YR 1466 (lvL E YR b i) [] C R) : Wl E YR 1069 (lvL E YR b i) [] C R := by
  obtain ⟨a, e1, e2⟩ := lag_sim h (xs (i + 1))
  refine wl_aload_n hE 2 rfl dL_law_1069 ?_
  refine wl_arg hE hi 1 1 rfl (by decide) (nA_1 i) dL_law_1070 dL_law_1071 dL_law_1072 dL_law_1073 dL_law_1074 ?_
  refine wl_callC (v := some (.int a)) (C' := C) hE cl_C_lag (mC_lag hE.2.2.2.1.1 _ C a e1) rfl ⟨rfl, rfl, rfl, rfl⟩ rfl rfl dL_law_1075 ?_
  refine wl_aload_n hE 1 rfl dL_law_1078 ?_
  refine wl_arg hE hi 1 1 rfl (by decide) (nA_1 i) dL_law_1079 dL_law_1080 dL_law_1081 dL_law_1082 dL_law_1083 ?_
  refine wl_callR (v := some (.int a)) (R' := (R0 R)) hE cl_R_lag (mR_lag hE.2.2.2.2.1 _ R (a, R0 R) e2) rfl ⟨rfl, rfl, rfl, rfl⟩ rfl rfl dL_law_1084 ?_
  exact wl_same hE 1466 rfl dL_law_1087 (kk _ _ _ _ _ (h.sm CSm.rf (R0_s R)))
theorem law_see (hE : ClOk E YR b L xs) {i n P Q : Nat} (hi : i + 6 ≤ L) (h : Rl n P Q C R) (kk : ∀ (n P Q : Nat) (C R : Mm), Rl n P Q C R → Wl E YR 1466 (lvL E YR b i) [] C R) : Wl E YR 1092 (lvL E YR b i) [] C R := by
  obtain ⟨a, C', R', e1, e2, h'⟩ := see_sim h
  refine wl_aload_n hE 2 rfl dL_law_1092 ?_
  refine wl_callC (v := some (.int a)) (C' := C') hE cl_C_see (mC_see hE.2.2.2.1.1 C (a, C') e1) rfl ⟨rfl, rfl, rfl, rfl⟩ rfl rfl dL_law_1093 ?_
  refine wl_aload_n hE 1 rfl dL_law_1096 ?_
  refine wl_callR (v := some (.int a)) (R' := R') hE cl_R_see (mR_see hE.2.2.2.2.1 R (a, R') e2) rfl ⟨rfl, rfl, rfl, rfl⟩ rfl rfl dL_law_1097 ?_
  exact wl_same hE 1466 rfl dL_law_1100 (kk _ _ _ _ _ h')
theorem law_fits (hE : ClOk E YR b L xs) {i n P Q : Nat} (hi : i + 6 ≤ L) (h : Rl n P Q C R) (kk : ∀ (n P Q : Nat) (C R : Mm), Rl n P Q C R → Wl E YR 1466 (lvL E YR b i) [] C R) : Wl E YR 1105 (lvL E YR b i) [] C R := by
  obtain ⟨a, C', R', e1, e2, h'⟩ := fits_sim h
  refine wl_aload_n hE 2 rfl dL_law_1105 ?_
  refine wl_callC (v := some (.int a)) (C' := C') hE cl_C_fits (mC_fits hE.2.2.2.1.1 C (a, C') e1) rfl ⟨rfl, rfl, rfl, rfl⟩ rfl rfl dL_law_1106 ?_
  refine wl_aload_n hE 1 rfl dL_law_1109 ?_
  refine wl_callR (v := some (.int a)) (R' := R') hE cl_R_fits (mR_fits hE.2.2.2.2.1 R (a, R') e2) rfl ⟨rfl, rfl, rfl, rfl⟩ rfl rfl dL_law_1110 ?_
  exact wl_same hE 1466 rfl dL_law_1113 (kk _ _ _ _ _ h')
theorem law_tells (hE : ClOk E YR b L xs) {i n P Q : Nat} (hi : i + 6 ≤ L) (h : Rl n P Q C R) (kk : ∀ (n P Q : Nat) (C R : Mm), Rl n P Q C R → Wl E YR 1466 (lvL E YR b i) [] C R) : Wl E YR 1118 (lvL E YR b i) [] C R := by
  obtain ⟨a, C', R', e1, e2, h'⟩ := tells_sim h (xs (i + 1))
  refine wl_aload_n hE 2 rfl dL_law_1118 ?_
  refine wl_arg hE hi 1 1 rfl (by decide) (nA_1 i) dL_law_1119 dL_law_1120 dL_law_1121 dL_law_1122 dL_law_1123 ?_
  refine wl_callC (v := some (.int a)) (C' := C') hE cl_C_tells (mC_tells hE.2.2.2.1.1 _ C (a, C') e1) rfl ⟨rfl, rfl, rfl, rfl⟩ rfl rfl dL_law_1124 ?_
  refine wl_aload_n hE 1 rfl dL_law_1127 ?_
  refine wl_arg hE hi 1 1 rfl (by decide) (nA_1 i) dL_law_1128 dL_law_1129 dL_law_1130 dL_law_1131 dL_law_1132 ?_
  refine wl_callR (v := some (.int a)) (R' := R') hE cl_R_tells (mR_tells hE.2.2.2.2.1 _ R (a, R') e2) rfl ⟨rfl, rfl, rfl, rfl⟩ rfl rfl dL_law_1133 ?_
  exact wl_same hE 1466 rfl dL_law_1136 (kk _ _ _ _ _ h')
theorem law_ticks (hE : ClOk E YR b L xs) {i n P Q : Nat} (hi : i + 6 ≤ L) (h : Rl n P Q C R) (kk : ∀ (n P Q : Nat) (C R : Mm), Rl n P Q C R → Wl E YR 1466 (lvL E YR b i) [] C R) : Wl E YR 1141 (lvL E YR b i) [] C R := by
  obtain ⟨a, C', R', e1, e2, h'⟩ := ticks_sim h (xs (i + 1))
  refine wl_aload_n hE 2 rfl dL_law_1141 ?_
  refine wl_arg hE hi 1 1 rfl (by decide) (nA_1 i) dL_law_1142 dL_law_1143 dL_law_1144 dL_law_1145 dL_law_1146 ?_
  refine wl_callC (v := some (.int a)) (C' := C') hE cl_C_ticks (mC_ticks hE.2.2.2.1.1 _ C (a, C') e1) rfl ⟨rfl, rfl, rfl, rfl⟩ rfl rfl dL_law_1147 ?_
  refine wl_aload_n hE 1 rfl dL_law_1150 ?_
  refine wl_arg hE hi 1 1 rfl (by decide) (nA_1 i) dL_law_1151 dL_law_1152 dL_law_1153 dL_law_1154 dL_law_1155 ?_
  refine wl_callR (v := some (.int a)) (R' := R') hE cl_R_ticks (mR_ticks hE.2.2.2.2.1 _ R (a, R') e2) rfl ⟨rfl, rfl, rfl, rfl⟩ rfl rfl dL_law_1156 ?_
  exact wl_same hE 1466 rfl dL_law_1159 (kk _ _ _ _ _ h')
theorem law_ask (hE : ClOk E YR b L xs) {i n P Q : Nat} (hi : i + 6 ≤ L) (h : Rl n P Q C R) (kk : ∀ (n P Q : Nat) (C R : Mm), Rl n P Q C R → Wl E YR 1466 (lvL E YR b i) [] C R) : Wl E YR 1164 (lvL E YR b i) [] C R := by
  obtain ⟨a, C', R', e1, e2, h'⟩ := ask_call h (xs (i + 1)) (xs (i + 2)) (xs (i + 3))
  refine wl_aload_n hE 2 rfl dL_law_1164 ?_
  refine wl_arg hE hi 1 1 rfl (by decide) (nA_1 i) dL_law_1165 dL_law_1166 dL_law_1167 dL_law_1168 dL_law_1169 ?_
  refine wl_arg hE hi 2 2 rfl (by decide) (nA_2 i) dL_law_1170 dL_law_1171 dL_law_1172 dL_law_1173 dL_law_1174 ?_
  refine wl_arg hE hi 3 3 rfl (by decide) (nA_3 i) dL_law_1175 dL_law_1176 dL_law_1177 dL_law_1178 dL_law_1179 ?_
  refine wl_callC (v := some (.int a)) (C' := C') hE cl_C_ask (mC_ask hE.2.2.2.1.1 _ _ _ C (a, C') e1) rfl ⟨rfl, rfl, rfl, rfl⟩ rfl rfl dL_law_1180 ?_
  refine wl_aload_n hE 1 rfl dL_law_1183 ?_
  refine wl_arg hE hi 1 1 rfl (by decide) (nA_1 i) dL_law_1184 dL_law_1185 dL_law_1186 dL_law_1187 dL_law_1188 ?_
  refine wl_arg hE hi 2 2 rfl (by decide) (nA_2 i) dL_law_1189 dL_law_1190 dL_law_1191 dL_law_1192 dL_law_1193 ?_
  refine wl_arg hE hi 3 3 rfl (by decide) (nA_3 i) dL_law_1194 dL_law_1195 dL_law_1196 dL_law_1197 dL_law_1198 ?_
  refine wl_callR (v := some (.int a)) (R' := R') hE cl_R_ask (mR_ask hE.2.2.2.2.1 _ _ _ R (a, R') e2) rfl ⟨rfl, rfl, rfl, rfl⟩ rfl rfl dL_law_1199 ?_
  exact wl_same hE 1466 rfl dL_law_1202 (kk _ _ _ _ _ h')
theorem law_weight (hE : ClOk E YR b L xs) {i n P Q : Nat} (hi : i + 6 ≤ L) (h : Rl n P Q C R) (kk : ∀ (n P Q : Nat) (C R : Mm), Rl n P Q C R → Wl E YR 1466 (lvL E YR b i) [] C R) : Wl E YR 1207 (lvL E YR b i) [] C R := by
  obtain ⟨a, C', R', e1, e2, h'⟩ := weight_sim h (xs (i + 1)) (xs (i + 2))
  refine wl_aload_n hE 2 rfl dL_law_1207 ?_
  refine wl_arg hE hi 1 1 rfl (by decide) (nA_1 i) dL_law_1208 dL_law_1209 dL_law_1210 dL_law_1211 dL_law_1212 ?_
  refine wl_arg hE hi 2 2 rfl (by decide) (nA_2 i) dL_law_1213 dL_law_1214 dL_law_1215 dL_law_1216 dL_law_1217 ?_
  refine wl_callC (v := some (.int a)) (C' := C') hE cl_C_weight (mC_weight hE.2.2.2.1.1 _ _ C (a, C') e1) rfl ⟨rfl, rfl, rfl, rfl⟩ rfl rfl dL_law_1218 ?_
  refine wl_aload_n hE 1 rfl dL_law_1221 ?_
  refine wl_arg hE hi 1 1 rfl (by decide) (nA_1 i) dL_law_1222 dL_law_1223 dL_law_1224 dL_law_1225 dL_law_1226 ?_
  refine wl_arg hE hi 2 2 rfl (by decide) (nA_2 i) dL_law_1227 dL_law_1228 dL_law_1229 dL_law_1230 dL_law_1231 ?_
  refine wl_callR (v := some (.int a)) (R' := R') hE cl_R_weight (mR_weight hE.2.2.2.2.1 _ _ R (a, R') e2) rfl ⟨rfl, rfl, rfl, rfl⟩ rfl rfl dL_law_1232 ?_
  exact wl_same hE 1466 rfl dL_law_1235 (kk _ _ _ _ _ h')
theorem law_idle (hE : ClOk E YR b L xs) {i n P Q : Nat} (hi : i + 6 ≤ L) (h : Rl n P Q C R) (kk : ∀ (n P Q : Nat) (C R : Mm), Rl n P Q C R → Wl E YR 1466 (lvL E YR b i) [] C R) : Wl E YR 1240 (lvL E YR b i) [] C R := by
  obtain ⟨a, C', R', e1, e2, h'⟩ := idle_sim h (xs (i + 1))
  refine wl_aload_n hE 2 rfl dL_law_1240 ?_
  refine wl_arg hE hi 1 1 rfl (by decide) (nA_1 i) dL_law_1241 dL_law_1242 dL_law_1243 dL_law_1244 dL_law_1245 ?_
  refine wl_callC (v := some (.int a)) (C' := C') hE cl_C_idle (mC_idle hE.2.2.2.1.1 _ C (a, C') e1) rfl ⟨rfl, rfl, rfl, rfl⟩ rfl rfl dL_law_1246 ?_
  refine wl_aload_n hE 1 rfl dL_law_1249 ?_
  refine wl_arg hE hi 1 1 rfl (by decide) (nA_1 i) dL_law_1250 dL_law_1251 dL_law_1252 dL_law_1253 dL_law_1254 ?_
  refine wl_callR (v := some (.int a)) (R' := R') hE cl_R_idle (mR_idle hE.2.2.2.2.1 _ R (a, R') e2) rfl ⟨rfl, rfl, rfl, rfl⟩ rfl rfl dL_law_1255 ?_
  exact wl_same hE 1466 rfl dL_law_1258 (kk _ _ _ _ _ h')
theorem law_slice (hE : ClOk E YR b L xs) {i n P Q : Nat} (hi : i + 6 ≤ L) (h : Rl n P Q C R) (kk : ∀ (n P Q : Nat) (C R : Mm), Rl n P Q C R → Wl E YR 1466 (lvL E YR b i) [] C R) : Wl E YR 1263 (lvL E YR b i) [] C R := by
  obtain ⟨a, C', R', e1, e2, h'⟩ := slice_sim h (xs (i + 1))
  refine wl_aload_n hE 2 rfl dL_law_1263 ?_
  refine wl_arg hE hi 1 1 rfl (by decide) (nA_1 i) dL_law_1264 dL_law_1265 dL_law_1266 dL_law_1267 dL_law_1268 ?_
  refine wl_callC (v := some (.int a)) (C' := C') hE cl_C_slice (mC_slice hE.2.2.2.1.1 _ C (a, C') e1) rfl ⟨rfl, rfl, rfl, rfl⟩ rfl rfl dL_law_1269 ?_
  refine wl_aload_n hE 1 rfl dL_law_1272 ?_
  refine wl_arg hE hi 1 1 rfl (by decide) (nA_1 i) dL_law_1273 dL_law_1274 dL_law_1275 dL_law_1276 dL_law_1277 ?_
  refine wl_callR (v := some (.int a)) (R' := R') hE cl_R_slice (mR_slice hE.2.2.2.2.1 _ R (a, R') e2) rfl ⟨rfl, rfl, rfl, rfl⟩ rfl rfl dL_law_1278 ?_
  exact wl_same hE 1466 rfl dL_law_1281 (kk _ _ _ _ _ h')
theorem law_on (hE : ClOk E YR b L xs) {i n P Q : Nat} (hi : i + 6 ≤ L) (h : Rl n P Q C R) (kk : ∀ (n P Q : Nat) (C R : Mm), Rl n P Q C R → Wl E YR 1466 (lvL E YR b i) [] C R) : Wl E YR 1286 (lvL E YR b i) [] C R := by
  obtain ⟨a, C', R', e1, e2, h'⟩ := on_sim h (xs (i + 1)) (bl01 (xs (i + 2)))
  refine wl_aload_n hE 2 rfl dL_law_1286 ?_
  refine wl_arg hE hi 1 1 rfl (by decide) (nA_1 i) dL_law_1287 dL_law_1288 dL_law_1289 dL_law_1290 dL_law_1291 ?_
  refine wl_arg hE hi 2 2 rfl (by decide) (nA_2 i) dL_law_1292 dL_law_1293 dL_law_1294 dL_law_1295 dL_law_1296 ?_
  refine wl_bool hE dL_law_1297 dL_law_1300 dL_law_1301 dL_law_1304 ?_
  refine wl_callC (v := some (.int a)) (C' := C') hE cl_C_on (mC_on hE.2.2.2.1.1 _ _ C (a, C') e1) rfl ⟨rfl, rfl, rfl, rfl⟩ rfl rfl dL_law_1305 ?_
  refine wl_aload_n hE 1 rfl dL_law_1308 ?_
  refine wl_arg hE hi 1 1 rfl (by decide) (nA_1 i) dL_law_1309 dL_law_1310 dL_law_1311 dL_law_1312 dL_law_1313 ?_
  refine wl_arg hE hi 2 2 rfl (by decide) (nA_2 i) dL_law_1314 dL_law_1315 dL_law_1316 dL_law_1317 dL_law_1318 ?_
  refine wl_bool hE dL_law_1319 dL_law_1322 dL_law_1323 dL_law_1326 ?_
  refine wl_callR (v := some (.int a)) (R' := R') hE cl_R_on (mR_on hE.2.2.2.2.1 _ _ R (a, R') e2) rfl ⟨rfl, rfl, rfl, rfl⟩ rfl rfl dL_law_1327 ?_
  exact wl_same hE 1466 rfl dL_law_1330 (kk _ _ _ _ _ h')
theorem law_chance (hE : ClOk E YR b L xs) {i n P Q : Nat} (hi : i + 6 ≤ L) (h : Rl n P Q C R) (kk : ∀ (n P Q : Nat) (C R : Mm), Rl n P Q C R → Wl E YR 1466 (lvL E YR b i) [] C R) : Wl E YR 1335 (lvL E YR b i) [] C R := by
  obtain ⟨a, C', R', e1, e2, h'⟩ := chance_sim h (xs (i + 1))
  refine wl_aload_n hE 2 rfl dL_law_1335 ?_
  refine wl_arg hE hi 1 1 rfl (by decide) (nA_1 i) dL_law_1336 dL_law_1337 dL_law_1338 dL_law_1339 dL_law_1340 ?_
  refine wl_callC (v := some (.int a)) (C' := C') hE cl_C_chance (mC_chance hE.2.2.2.1.1 _ C (a, C') e1) rfl ⟨rfl, rfl, rfl, rfl⟩ rfl rfl dL_law_1341 ?_
  refine wl_aload_n hE 1 rfl dL_law_1344 ?_
  refine wl_arg hE hi 1 1 rfl (by decide) (nA_1 i) dL_law_1345 dL_law_1346 dL_law_1347 dL_law_1348 dL_law_1349 ?_
  refine wl_callR (v := some (.int a)) (R' := R') hE cl_R_chance (mR_chance hE.2.2.2.2.1 _ R (a, R') e2) rfl ⟨rfl, rfl, rfl, rfl⟩ rfl rfl dL_law_1350 ?_
  exact wl_same hE 1466 rfl dL_law_1353 (kk _ _ _ _ _ h')
theorem law_undo (hE : ClOk E YR b L xs) {i n P Q : Nat} (hi : i + 6 ≤ L) (h : Rl n P Q C R) (kk : ∀ (n P Q : Nat) (C R : Mm), Rl n P Q C R → Wl E YR 1466 (lvL E YR b i) [] C R) : Wl E YR 1358 (lvL E YR b i) [] C R := by
  obtain ⟨a, C', R', e1, e2, h'⟩ := undo_sim h
  refine wl_aload_n hE 2 rfl dL_law_1358 ?_
  refine wl_callC (v := some (.int a)) (C' := C') hE cl_C_undo (mC_undo hE.2.2.2.1.1 C (a, C') e1) rfl ⟨rfl, rfl, rfl, rfl⟩ rfl rfl dL_law_1359 ?_
  refine wl_aload_n hE 1 rfl dL_law_1362 ?_
  refine wl_callR (v := some (.int a)) (R' := R') hE cl_R_undo (mR_undo hE.2.2.2.2.1 R (a, R') e2) rfl ⟨rfl, rfl, rfl, rfl⟩ rfl rfl dL_law_1363 ?_
  exact wl_same hE 1466 rfl dL_law_1366 (kk _ _ _ _ _ h')
theorem law_seed (hE : ClOk E YR b L xs) {i n P Q : Nat} (hi : i + 6 ≤ L) (h : Rl n P Q C R) (kk : ∀ (n P Q : Nat) (C R : Mm), Rl n P Q C R → Wl E YR 1466 (lvL E YR b i) [] C R) : Wl E YR 1371 (lvL E YR b i) [] C R := by
  obtain ⟨a, C', R', e1, e2, h'⟩ := seed_sim h (xs (i + 1))
  refine wl_aload_n hE 2 rfl dL_law_1371 ?_
  refine wl_arg hE hi 1 1 rfl (by decide) (nA_1 i) dL_law_1372 dL_law_1373 dL_law_1374 dL_law_1375 dL_law_1376 ?_
  refine wl_callC (v := some (.int a)) (C' := C') hE cl_C_seed (mC_seed hE.2.2.2.1.1 _ C (a, C') e1) rfl ⟨rfl, rfl, rfl, rfl⟩ rfl rfl dL_law_1377 ?_
  refine wl_aload_n hE 1 rfl dL_law_1380 ?_
  refine wl_arg hE hi 1 1 rfl (by decide) (nA_1 i) dL_law_1381 dL_law_1382 dL_law_1383 dL_law_1384 dL_law_1385 ?_
  refine wl_callR (v := some (.int a)) (R' := R') hE cl_R_seed (mR_seed hE.2.2.2.2.1 _ R (a, R') e2) rfl ⟨rfl, rfl, rfl, rfl⟩ rfl rfl dL_law_1386 ?_
  exact wl_same hE 1466 rfl dL_law_1389 (kk _ _ _ _ _ h')
theorem law_image (hE : ClOk E YR b L xs) {i n P Q : Nat} (hi : i + 6 ≤ L) (h : Rl n P Q C R) (kk : ∀ (n P Q : Nat) (C R : Mm), Rl n P Q C R → Wl E YR 1466 (lvL E YR b i) [] C R) : Wl E YR 1394 (lvL E YR b i) [] C R := by
  obtain ⟨a, C', R', e1, e2, h'⟩ := image_sim h
  refine wl_aload_n hE 2 rfl dL_law_1394 ?_
  refine wl_callC (v := some (.int a)) (C' := C') hE cl_C_image (mC_image hE.2.2.2.1.1 C (a, C') e1) rfl ⟨rfl, rfl, rfl, rfl⟩ rfl rfl dL_law_1395 ?_
  refine wl_aload_n hE 1 rfl dL_law_1398 ?_
  refine wl_callR (v := some (.int a)) (R' := R') hE cl_R_image (mR_image hE.2.2.2.2.1 R (a, R') e2) rfl ⟨rfl, rfl, rfl, rfl⟩ rfl rfl dL_law_1399 ?_
  exact wl_same hE 1466 rfl dL_law_1402 (kk _ _ _ _ _ h')
theorem law_octet (hE : ClOk E YR b L xs) {i n P Q : Nat} (hi : i + 6 ≤ L) (h : Rl n P Q C R) (kk : ∀ (n P Q : Nat) (C R : Mm), Rl n P Q C R → Wl E YR 1466 (lvL E YR b i) [] C R) : Wl E YR 1407 (lvL E YR b i) [] C R := by
  obtain ⟨a, e1, e2⟩ := octet_sim h (xs (i + 1))
  refine wl_aload_n hE 2 rfl dL_law_1407 ?_
  refine wl_arg hE hi 1 1 rfl (by decide) (nA_1 i) dL_law_1408 dL_law_1409 dL_law_1410 dL_law_1411 dL_law_1412 ?_
  refine wl_callC (v := some (.int a)) (C' := C) hE cl_C_octet (mC_octet hE.2.2.2.1.1 _ C a e1) rfl ⟨rfl, rfl, rfl, rfl⟩ rfl rfl dL_law_1413 ?_
  refine wl_aload_n hE 1 rfl dL_law_1416 ?_
  refine wl_arg hE hi 1 1 rfl (by decide) (nA_1 i) dL_law_1417 dL_law_1418 dL_law_1419 dL_law_1420 dL_law_1421 ?_
  refine wl_callR (v := some (.int a)) (R' := R) hE cl_R_octet (mR_octet hE.2.2.2.2.1 _ R a e2) rfl ⟨rfl, rfl, rfl, rfl⟩ rfl rfl dL_law_1422 ?_
  exact wl_same hE 1466 rfl dL_law_1425 (kk _ _ _ _ _ h)
theorem law_take (hE : ClOk E YR b L xs) {i n P Q : Nat} (hi : i + 6 ≤ L) (h : Rl n P Q C R) (kk : ∀ (n P Q : Nat) (C R : Mm), Rl n P Q C R → Wl E YR 1466 (lvL E YR b i) [] C R) : Wl E YR 1430 (lvL E YR b i) [] C R := by
  obtain ⟨a, C', R', e1, e2, h'⟩ := take_sim h
  refine wl_aload_n hE 2 rfl dL_law_1430 ?_
  refine wl_callC (v := some (.int a)) (C' := C') hE cl_C_take (mC_take hE.2.2.2.1.1 C (a, C') e1) rfl ⟨rfl, rfl, rfl, rfl⟩ rfl rfl dL_law_1431 ?_
  refine wl_aload_n hE 1 rfl dL_law_1434 ?_
  refine wl_callR (v := some (.int a)) (R' := R') hE cl_R_take (mR_take hE.2.2.2.2.1 R (a, R') e2) rfl ⟨rfl, rfl, rfl, rfl⟩ rfl rfl dL_law_1435 ?_
  exact wl_same hE 1466 rfl dL_law_1438 (kk _ _ _ _ _ h')
theorem law_status (hE : ClOk E YR b L xs) {i n P Q : Nat} (hi : i + 6 ≤ L) (h : Rl n P Q C R) (kk : ∀ (n P Q : Nat) (C R : Mm), Rl n P Q C R → Wl E YR 1466 (lvL E YR b i) [] C R) : Wl E YR 1443 (lvL E YR b i) [] C R := by
  obtain ⟨a, e1, e2⟩ := status_sim h (xs (i + 1))
  refine wl_aload_n hE 2 rfl dL_law_1443 ?_
  refine wl_arg hE hi 1 1 rfl (by decide) (nA_1 i) dL_law_1444 dL_law_1445 dL_law_1446 dL_law_1447 dL_law_1448 ?_
  refine wl_callC (v := some (.int a)) (C' := C) hE cl_C_status (mC_status hE.2.2.2.1.1 _ C a e1) rfl ⟨rfl, rfl, rfl, rfl⟩ rfl rfl dL_law_1449 ?_
  refine wl_aload_n hE 1 rfl dL_law_1452 ?_
  refine wl_arg hE hi 1 1 rfl (by decide) (nA_1 i) dL_law_1453 dL_law_1454 dL_law_1455 dL_law_1456 dL_law_1457 ?_
  refine wl_callR (v := some (.int a)) (R' := R) hE cl_R_status (mR_status hE.2.2.2.2.1 _ R a e2) rfl ⟨rfl, rfl, rfl, rfl⟩ rfl rfl dL_law_1458 ?_
  exact wl_same hE 1466 rfl dL_law_1461 (kk _ _ _ _ _ h)
theorem law_switch (hE : ClOk E YR b L xs) {i n P Q : Nat} (hi : i + 6 ≤ L) (h : Rl n P Q C R) (kk : ∀ (n P Q : Nat) (C R : Mm), Rl n P Q C R → Wl E YR 1466 (lvL E YR b i) [] C R) : Wl E YR 33 (lvL E YR b i) [.int (xs i &&& 63)] C R := by
  obtain ⟨k, hk, ek⟩ := and63 (xs i)
  rw [ek]
  match k, hk with
  | 0, _ => exact wl_tbl hE 220 dL_law_33 (by decide) (by decide) rfl rfl (law_feed hE hi h kk)
  | 1, _ => exact wl_tbl hE 283 dL_law_33 (by decide) (by decide) rfl rfl (law_end hE hi h kk)
  | 2, _ => exact wl_tbl hE 306 dL_law_33 (by decide) (by decide) rfl rfl (law_disk hE hi h kk)
  | 3, _ => exact wl_tbl hE 319 dL_law_33 (by decide) (by decide) rfl rfl (law_fault hE hi h kk)
  | 4, _ => exact wl_tbl hE 342 dL_law_33 (by decide) (by decide) rfl rfl (law_has hE hi h kk)
  | 5, _ => exact wl_tbl hE 365 dL_law_33 (by decide) (by decide) rfl rfl (law_letter hE hi h kk)
  | 6, _ => exact wl_tbl hE 398 dL_law_33 (by decide) (by decide) rfl rfl (law_process hE hi h kk)
  | 7, _ => exact wl_tbl hE 431 dL_law_33 (by decide) (by decide) rfl rfl (law_mean hE hi h kk)
  | 8, _ => exact wl_tbl hE 455 dL_law_33 (by decide) (by decide) rfl rfl (law_queue hE hi h kk)
  | 9, _ => exact wl_tbl hE 488 dL_law_33 (by decide) (by decide) rfl rfl (law_bits hE hi h kk)
  | 10, _ => exact wl_tbl hE 511 dL_law_33 (by decide) (by decide) rfl rfl (law_request hE hi h kk)
  | 11, _ => exact wl_tbl hE 554 dL_law_33 (by decide) (by decide) rfl rfl (law_next hE hi h kk)
  | 12, _ => exact wl_tbl hE 577 dL_law_33 (by decide) (by decide) rfl rfl (law_kept hE hi h kk)
  | 13, _ => exact wl_tbl hE 610 dL_law_33 (by decide) (by decide) rfl rfl (law_later hE hi h kk)
  | 14, _ => exact wl_tbl hE 653 dL_law_33 (by decide) (by decide) rfl rfl (law_share hE hi h kk)
  | 15, _ => exact wl_tbl hE 686 dL_law_33 (by decide) (by decide) rfl rfl (law_when hE hi h kk)
  | 16, _ => exact wl_tbl hE 719 dL_law_33 (by decide) (by decide) rfl rfl (law_late hE hi h kk)
  | 17, _ => exact wl_tbl hE 762 dL_law_33 (by decide) (by decide) rfl rfl (law_alone hE hi h kk)
  | 18, _ => exact wl_tbl hE 795 dL_law_33 (by decide) (by decide) rfl rfl (law_idling hE hi h kk)
  | 19, _ => exact wl_tbl hE 828 dL_law_33 (by decide) (by decide) rfl rfl (law_gain hE hi h kk)
  | 20, _ => exact wl_tbl hE 861 dL_law_33 (by decide) (by decide) rfl rfl (law_apart hE hi h kk)
  | 21, _ => exact wl_tbl hE 884 dL_law_33 (by decide) (by decide) rfl rfl (law_latest hE hi h kk)
  | 22, _ => exact wl_tbl hE 927 dL_law_33 (by decide) (by decide) rfl rfl (law_least hE hi h kk)
  | 23, _ => exact wl_tbl hE 970 dL_law_33 (by decide) (by decide) rfl rfl (law_expiry hE hi h kk)
  | 24, _ => exact wl_tbl hE 1003 dL_law_33 (by decide) (by decide) rfl rfl (law_worst hE hi h kk)
  | 25, _ => exact wl_tbl hE 1036 dL_law_33 (by decide) (by decide) rfl rfl (law_slicing hE hi h kk)
  | 26, _ => exact wl_tbl hE 1069 dL_law_33 (by decide) (by decide) rfl rfl (law_lag hE hi h kk)
  | 27, _ => exact wl_tbl hE 1092 dL_law_33 (by decide) (by decide) rfl rfl (law_see hE hi h kk)
  | 28, _ => exact wl_tbl hE 1105 dL_law_33 (by decide) (by decide) rfl rfl (law_fits hE hi h kk)
  | 29, _ => exact wl_tbl hE 1118 dL_law_33 (by decide) (by decide) rfl rfl (law_tells hE hi h kk)
  | 30, _ => exact wl_tbl hE 1141 dL_law_33 (by decide) (by decide) rfl rfl (law_ticks hE hi h kk)
  | 31, _ => exact wl_tbl hE 1164 dL_law_33 (by decide) (by decide) rfl rfl (law_ask hE hi h kk)
  | 32, _ => exact wl_tbl hE 1207 dL_law_33 (by decide) (by decide) rfl rfl (law_weight hE hi h kk)
  | 33, _ => exact wl_tbl hE 1240 dL_law_33 (by decide) (by decide) rfl rfl (law_idle hE hi h kk)
  | 34, _ => exact wl_tbl hE 1263 dL_law_33 (by decide) (by decide) rfl rfl (law_slice hE hi h kk)
  | 35, _ => exact wl_tbl hE 1286 dL_law_33 (by decide) (by decide) rfl rfl (law_on hE hi h kk)
  | 36, _ => exact wl_tbl hE 1335 dL_law_33 (by decide) (by decide) rfl rfl (law_chance hE hi h kk)
  | 37, _ => exact wl_tbl hE 1358 dL_law_33 (by decide) (by decide) rfl rfl (law_undo hE hi h kk)
  | 38, _ => exact wl_tbl hE 1371 dL_law_33 (by decide) (by decide) rfl rfl (law_seed hE hi h kk)
  | 39, _ => exact wl_tbl hE 1394 dL_law_33 (by decide) (by decide) rfl rfl (law_image hE hi h kk)
  | 40, _ => exact wl_tbl hE 1407 dL_law_33 (by decide) (by decide) rfl rfl (law_octet hE hi h kk)
  | 41, _ => exact wl_tbl hE 1430 dL_law_33 (by decide) (by decide) rfl rfl (law_take hE hi h kk)
  | 42, _ => exact wl_tbl hE 1443 dL_law_33 (by decide) (by decide) rfl rfl (law_status hE hi h kk)
  | k + 43, hk => exact wl_tblO hE 1466 dL_law_33 (Or.inr (by rw [nI_toInt (by omega)]; omega)) rfl (kk _ _ _ _ _ h)
theorem L6 {L i : Nat} (hL : L ≤ 3072) (hi : i ≤ L) : nI L - 6 < nI i ↔ ¬ i + 6 ≤ L := by
  by_cases h : 6 ≤ L
  · rw [nS_6 h, nI_ltI (by omega) (by omega)]
    omega
  · refine ⟨fun _ => by omega, fun _ => ?_⟩
    have hL5 : L = 0 ∨ L = 1 ∨ L = 2 ∨ L = 3 ∨ L = 4 ∨ L = 5 := by omega
    have h1 : nI L - 6 < nI 0 := by rcases hL5 with rfl | rfl | rfl | rfl | rfl | rfl <;> decide
    have h2 : nI 0 ≤ nI i := nI_le (Nat.zero_le i) (by omega)
    exact Int32.lt_of_lt_of_le h1 h2
theorem law_loop (hE : ClOk E YR b L xs) (hend : ∀ (i : Nat) (C R : Mm), Wl E YR 1472 (lvL E YR b i) [] C R) : ∀ (f i n P Q : Nat) (C R : Mm), i ≤ L → L < i + f → Rl n P Q C R → Wl E YR 18 (lvL E YR b i) [] C R
  | 0, i, n, P, Q, C, R, hi, hf, h => by omega
  | f + 1, i, n, P, Q, C, R, hi, hf, h => by
    have hL := hE.2.2.1.2.2
    refine wl_iload_n hE 0 rfl dL_law_18 ?_
    refine wl_aload_n hE 3 rfl dL_law_19 ?_
    refine wl_slen hE dL_law_20 ?_
    refine wl_bipush hE 6 rfl dL_law_21 ?_
    refine wl_isub hE dL_law_23 ?_
    refine wl_icmp_gt hE 1472 rfl dL_law_24 (fun _ => hend i C R) (fun hc => ?_)
    have h6 : i + 6 ≤ L := Classical.byContradiction (fun hn => hc ((L6 hL hi).mpr hn))
    refine wl_aload_n hE 3 rfl dL_law_27 ?_
    refine wl_iload_n hE 0 rfl dL_law_28 ?_
    refine wl_sld hE (by omega) dL_law_29 ?_
    refine wl_bipush hE 63 rfl dL_law_30 ?_
    refine wl_iand hE dL_law_32 ?_
    refine law_switch hE h6 h (fun n P Q C R h => ?_)
    refine wl_iinc hE dL_law_1466 ?_
    refine wl_goto hE 18 rfl dL_law_1469 ?_
    exact law_loop hE hend f (i + 6) n P Q C R h6 (by omega) h
end CASES
