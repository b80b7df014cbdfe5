set_option maxRecDepth 200000 in
theorem q_516 : Cond.code yX11_row cX11_row 3 (some .int) ∈ tb := tb_mem 516 (by rfl) rfl
set_option maxRecDepth 200000 in
theorem q_514 : Cond.instanceMethod yX11_row ∈ tb := tb_mem 514 (by decide +kernel) rfl
set_option maxRecDepth 200000 in
theorem q_515 : Cond.selects "CityRoad" yX11_row yX11_row ∈ tb := tb_mem 515 (by decide +kernel) rfl
set_option maxRecDepth 200000 in
theorem q_513 : Cond.methodLink "CityRoadLaw" 13 yX11_row ∈ tb := tb_mem 513 (by decide +kernel) rfl
set_option maxRecDepth 200000 in
theorem q_1701 : Cond.code yX12_row cX12_row 4 (some .int) ∈ tb := tb_mem 1701 (by rfl) rfl
set_option maxRecDepth 200000 in
theorem q_1699 : Cond.instanceMethod yX12_row ∈ tb := tb_mem 1699 (by decide +kernel) rfl
set_option maxRecDepth 200000 in
theorem q_1700 : Cond.selects "CityRoadModel" yX12_row yX12_row ∈ tb := tb_mem 1700 (by decide +kernel) rfl
set_option maxRecDepth 200000 in
theorem q_1698 : Cond.methodLink "CityRoadLaw" 17 yX12_row ∈ tb := tb_mem 1698 (by decide +kernel) rfl
set_option maxRecDepth 200000 in
theorem q_538 : Cond.code yX11_lay cX11_lay 4 (some .int) ∈ tb := tb_mem 538 (by rfl) rfl
set_option maxRecDepth 200000 in
theorem q_536 : Cond.instanceMethod yX11_lay ∈ tb := tb_mem 536 (by decide +kernel) rfl
set_option maxRecDepth 200000 in
theorem q_537 : Cond.selects "CityRoad" yX11_lay yX11_lay ∈ tb := tb_mem 537 (by decide +kernel) rfl
set_option maxRecDepth 200000 in
theorem q_535 : Cond.methodLink "CityRoadLaw" 18 yX11_lay ∈ tb := tb_mem 535 (by decide +kernel) rfl
set_option maxRecDepth 200000 in
theorem q_1715 : Cond.code yX12_lay cX12_lay 5 (some .int) ∈ tb := tb_mem 1715 (by rfl) rfl
set_option maxRecDepth 200000 in
theorem q_1713 : Cond.instanceMethod yX12_lay ∈ tb := tb_mem 1713 (by decide +kernel) rfl
set_option maxRecDepth 200000 in
theorem q_1714 : Cond.selects "CityRoadModel" yX12_lay yX12_lay ∈ tb := tb_mem 1714 (by decide +kernel) rfl
set_option maxRecDepth 200000 in
theorem q_1712 : Cond.methodLink "CityRoadLaw" 22 yX12_lay ∈ tb := tb_mem 1712 (by decide +kernel) rfl
set_option maxRecDepth 200000 in
theorem q_558 : Cond.code yX11_tear cX11_tear 2 (some .int) ∈ tb := tb_mem 558 (by rfl) rfl
set_option maxRecDepth 200000 in
theorem q_556 : Cond.instanceMethod yX11_tear ∈ tb := tb_mem 556 (by decide +kernel) rfl
set_option maxRecDepth 200000 in
theorem q_557 : Cond.selects "CityRoad" yX11_tear yX11_tear ∈ tb := tb_mem 557 (by decide +kernel) rfl
set_option maxRecDepth 200000 in
theorem q_555 : Cond.methodLink "CityRoadLaw" 23 yX11_tear ∈ tb := tb_mem 555 (by decide +kernel) rfl
set_option maxRecDepth 200000 in
theorem q_1723 : Cond.code yX12_tear cX12_tear 3 (some .int) ∈ tb := tb_mem 1723 (by rfl) rfl
set_option maxRecDepth 200000 in
theorem q_1721 : Cond.instanceMethod yX12_tear ∈ tb := tb_mem 1721 (by decide +kernel) rfl
set_option maxRecDepth 200000 in
theorem q_1722 : Cond.selects "CityRoadModel" yX12_tear yX12_tear ∈ tb := tb_mem 1722 (by decide +kernel) rfl
set_option maxRecDepth 200000 in
theorem q_1720 : Cond.methodLink "CityRoadLaw" 27 yX12_tear ∈ tb := tb_mem 1720 (by decide +kernel) rfl
set_option maxRecDepth 200000 in
theorem q_566 : Cond.code yX11_copy cX11_copy 6 (some .int) ∈ tb := tb_mem 566 (by rfl) rfl
set_option maxRecDepth 200000 in
theorem q_564 : Cond.instanceMethod yX11_copy ∈ tb := tb_mem 564 (by decide +kernel) rfl
set_option maxRecDepth 200000 in
theorem q_565 : Cond.selects "CityRoad" yX11_copy yX11_copy ∈ tb := tb_mem 565 (by decide +kernel) rfl
set_option maxRecDepth 200000 in
theorem q_563 : Cond.methodLink "CityRoadLaw" 28 yX11_copy ∈ tb := tb_mem 563 (by decide +kernel) rfl
set_option maxRecDepth 200000 in
theorem q_1727 : Cond.code yX12_copy cX12_copy 7 (some .int) ∈ tb := tb_mem 1727 (by rfl) rfl
set_option maxRecDepth 200000 in
theorem q_1725 : Cond.instanceMethod yX12_copy ∈ tb := tb_mem 1725 (by decide +kernel) rfl
set_option maxRecDepth 200000 in
theorem q_1726 : Cond.selects "CityRoadModel" yX12_copy yX12_copy ∈ tb := tb_mem 1726 (by decide +kernel) rfl
set_option maxRecDepth 200000 in
theorem q_1724 : Cond.methodLink "CityRoadLaw" 32 yX12_copy ∈ tb := tb_mem 1724 (by decide +kernel) rfl
set_option maxRecDepth 200000 in
theorem q_581 : Cond.code yX11_text cX11_text 3 (some .int) ∈ tb := tb_mem 581 (by rfl) rfl
set_option maxRecDepth 200000 in
theorem q_579 : Cond.instanceMethod yX11_text ∈ tb := tb_mem 579 (by decide +kernel) rfl
set_option maxRecDepth 200000 in
theorem q_580 : Cond.selects "CityRoad" yX11_text yX11_text ∈ tb := tb_mem 580 (by decide +kernel) rfl
set_option maxRecDepth 200000 in
theorem q_578 : Cond.methodLink "CityRoadLaw" 33 yX11_text ∈ tb := tb_mem 578 (by decide +kernel) rfl
set_option maxRecDepth 200000 in
theorem q_1731 : Cond.code yX12_text cX12_text 4 (some .int) ∈ tb := tb_mem 1731 (by rfl) rfl
set_option maxRecDepth 200000 in
theorem q_1729 : Cond.instanceMethod yX12_text ∈ tb := tb_mem 1729 (by decide +kernel) rfl
set_option maxRecDepth 200000 in
theorem q_1730 : Cond.selects "CityRoadModel" yX12_text yX12_text ∈ tb := tb_mem 1730 (by decide +kernel) rfl
set_option maxRecDepth 200000 in
theorem q_1728 : Cond.methodLink "CityRoadLaw" 36 yX12_text ∈ tb := tb_mem 1728 (by decide +kernel) rfl
set_option maxRecDepth 200000 in
theorem q_585 : Cond.code yX11_put cX11_put 4 (some .int) ∈ tb := tb_mem 585 (by rfl) rfl
set_option maxRecDepth 200000 in
theorem q_583 : Cond.instanceMethod yX11_put ∈ tb := tb_mem 583 (by decide +kernel) rfl
set_option maxRecDepth 200000 in
theorem q_584 : Cond.selects "CityRoad" yX11_put yX11_put ∈ tb := tb_mem 584 (by decide +kernel) rfl
set_option maxRecDepth 200000 in
theorem q_582 : Cond.methodLink "CityRoadLaw" 37 yX11_put ∈ tb := tb_mem 582 (by decide +kernel) rfl
set_option maxRecDepth 200000 in
theorem q_1738 : Cond.code yX12_put cX12_put 6 (some .int) ∈ tb := tb_mem 1738 (by rfl) rfl
set_option maxRecDepth 200000 in
theorem q_1736 : Cond.instanceMethod yX12_put ∈ tb := tb_mem 1736 (by decide +kernel) rfl
set_option maxRecDepth 200000 in
theorem q_1737 : Cond.selects "CityRoadModel" yX12_put yX12_put ∈ tb := tb_mem 1737 (by decide +kernel) rfl
set_option maxRecDepth 200000 in
theorem q_1735 : Cond.methodLink "CityRoadLaw" 40 yX12_put ∈ tb := tb_mem 1735 (by decide +kernel) rfl
set_option maxRecDepth 200000 in
theorem q_589 : Cond.code yX11_fault cX11_fault 2 (some .int) ∈ tb := tb_mem 589 (by rfl) rfl
set_option maxRecDepth 200000 in
theorem q_587 : Cond.instanceMethod yX11_fault ∈ tb := tb_mem 587 (by decide +kernel) rfl
set_option maxRecDepth 200000 in
theorem q_588 : Cond.selects "CityRoad" yX11_fault yX11_fault ∈ tb := tb_mem 588 (by decide +kernel) rfl
set_option maxRecDepth 200000 in
theorem q_586 : Cond.methodLink "CityRoadLaw" 41 yX11_fault ∈ tb := tb_mem 586 (by decide +kernel) rfl
set_option maxRecDepth 200000 in
theorem q_1750 : Cond.code yX12_fault cX12_fault 3 (some .int) ∈ tb := tb_mem 1750 (by rfl) rfl
set_option maxRecDepth 200000 in
theorem q_1748 : Cond.instanceMethod yX12_fault ∈ tb := tb_mem 1748 (by decide +kernel) rfl
set_option maxRecDepth 200000 in
theorem q_1749 : Cond.selects "CityRoadModel" yX12_fault yX12_fault ∈ tb := tb_mem 1749 (by decide +kernel) rfl
set_option maxRecDepth 200000 in
theorem q_1747 : Cond.methodLink "CityRoadLaw" 44 yX12_fault ∈ tb := tb_mem 1747 (by decide +kernel) rfl
set_option maxRecDepth 200000 in
theorem q_616 : Cond.code yX11_later cX11_later 2 (some .int) ∈ tb := tb_mem 616 (by rfl) rfl
set_option maxRecDepth 200000 in
theorem q_614 : Cond.instanceMethod yX11_later ∈ tb := tb_mem 614 (by decide +kernel) rfl
set_option maxRecDepth 200000 in
theorem q_615 : Cond.selects "CityRoad" yX11_later yX11_later ∈ tb := tb_mem 615 (by decide +kernel) rfl
set_option maxRecDepth 200000 in
theorem q_613 : Cond.methodLink "CityRoadLaw" 45 yX11_later ∈ tb := tb_mem 613 (by decide +kernel) rfl
set_option maxRecDepth 200000 in
theorem q_1746 : Cond.code yX12_later cX12_later 2 (some .int) ∈ tb := tb_mem 1746 (by rfl) rfl
set_option maxRecDepth 200000 in
theorem q_1744 : Cond.instanceMethod yX12_later ∈ tb := tb_mem 1744 (by decide +kernel) rfl
set_option maxRecDepth 200000 in
theorem q_1745 : Cond.selects "CityRoadModel" yX12_later yX12_later ∈ tb := tb_mem 1745 (by decide +kernel) rfl
set_option maxRecDepth 200000 in
theorem q_1743 : Cond.methodLink "CityRoadLaw" 48 yX12_later ∈ tb := tb_mem 1743 (by decide +kernel) rfl
set_option maxRecDepth 200000 in
theorem q_620 : Cond.code yX11_cell cX11_cell 4 (some .int) ∈ tb := tb_mem 620 (by rfl) rfl
set_option maxRecDepth 200000 in
theorem q_618 : Cond.instanceMethod yX11_cell ∈ tb := tb_mem 618 (by decide +kernel) rfl
set_option maxRecDepth 200000 in
theorem q_619 : Cond.selects "CityRoad" yX11_cell yX11_cell ∈ tb := tb_mem 619 (by decide +kernel) rfl
set_option maxRecDepth 200000 in
theorem q_617 : Cond.methodLink "CityRoadLaw" 49 yX11_cell ∈ tb := tb_mem 617 (by decide +kernel) rfl
set_option maxRecDepth 200000 in
theorem q_1787 : Cond.code yX12_cell cX12_cell 4 (some .int) ∈ tb := tb_mem 1787 (by rfl) rfl
set_option maxRecDepth 200000 in
theorem q_1785 : Cond.instanceMethod yX12_cell ∈ tb := tb_mem 1785 (by decide +kernel) rfl
set_option maxRecDepth 200000 in
theorem q_1786 : Cond.selects "CityRoadModel" yX12_cell yX12_cell ∈ tb := tb_mem 1786 (by decide +kernel) rfl
set_option maxRecDepth 200000 in
theorem q_1784 : Cond.methodLink "CityRoadLaw" 52 yX12_cell ∈ tb := tb_mem 1784 (by decide +kernel) rfl
set_option maxRecDepth 200000 in
theorem q_635 : Cond.code yX11_building cX11_building 5 (some .int) ∈ tb := tb_mem 635 (by rfl) rfl
set_option maxRecDepth 200000 in
theorem q_633 : Cond.instanceMethod yX11_building ∈ tb := tb_mem 633 (by decide +kernel) rfl
set_option maxRecDepth 200000 in
theorem q_634 : Cond.selects "CityRoad" yX11_building yX11_building ∈ tb := tb_mem 634 (by decide +kernel) rfl
set_option maxRecDepth 200000 in
theorem q_632 : Cond.methodLink "CityRoadLaw" 53 yX11_building ∈ tb := tb_mem 632 (by decide +kernel) rfl
set_option maxRecDepth 200000 in
theorem q_1798 : Cond.code yX12_building cX12_building 5 (some .int) ∈ tb := tb_mem 1798 (by rfl) rfl
set_option maxRecDepth 200000 in
theorem q_1796 : Cond.instanceMethod yX12_building ∈ tb := tb_mem 1796 (by decide +kernel) rfl
set_option maxRecDepth 200000 in
theorem q_1797 : Cond.selects "CityRoadModel" yX12_building yX12_building ∈ tb := tb_mem 1797 (by decide +kernel) rfl
set_option maxRecDepth 200000 in
theorem q_1795 : Cond.methodLink "CityRoadLaw" 57 yX12_building ∈ tb := tb_mem 1795 (by decide +kernel) rfl
set_option maxRecDepth 200000 in
theorem q_666 : Cond.code yX11_worth cX11_worth 4 (some .int) ∈ tb := tb_mem 666 (by rfl) rfl
set_option maxRecDepth 200000 in
theorem q_664 : Cond.instanceMethod yX11_worth ∈ tb := tb_mem 664 (by decide +kernel) rfl
set_option maxRecDepth 200000 in
theorem q_665 : Cond.selects "CityRoad" yX11_worth yX11_worth ∈ tb := tb_mem 665 (by decide +kernel) rfl
set_option maxRecDepth 200000 in
theorem q_663 : Cond.methodLink "CityRoadLaw" 58 yX11_worth ∈ tb := tb_mem 663 (by decide +kernel) rfl
set_option maxRecDepth 200000 in
theorem q_1810 : Cond.code yX12_worth cX12_worth 4 (some .int) ∈ tb := tb_mem 1810 (by rfl) rfl
set_option maxRecDepth 200000 in
theorem q_1808 : Cond.instanceMethod yX12_worth ∈ tb := tb_mem 1808 (by decide +kernel) rfl
set_option maxRecDepth 200000 in
theorem q_1809 : Cond.selects "CityRoadModel" yX12_worth yX12_worth ∈ tb := tb_mem 1809 (by decide +kernel) rfl
set_option maxRecDepth 200000 in
theorem q_1807 : Cond.methodLink "CityRoadLaw" 61 yX12_worth ∈ tb := tb_mem 1807 (by decide +kernel) rfl
set_option maxRecDepth 200000 in
theorem q_683 : Cond.code yX11_value cX11_value 3 (some .int) ∈ tb := tb_mem 683 (by rfl) rfl
set_option maxRecDepth 200000 in
theorem q_681 : Cond.instanceMethod yX11_value ∈ tb := tb_mem 681 (by decide +kernel) rfl
set_option maxRecDepth 200000 in
theorem q_682 : Cond.selects "CityRoad" yX11_value yX11_value ∈ tb := tb_mem 682 (by decide +kernel) rfl
set_option maxRecDepth 200000 in
theorem q_680 : Cond.methodLink "CityRoadLaw" 62 yX11_value ∈ tb := tb_mem 680 (by decide +kernel) rfl
set_option maxRecDepth 200000 in
theorem q_1822 : Cond.code yX12_value cX12_value 3 (some .int) ∈ tb := tb_mem 1822 (by rfl) rfl
set_option maxRecDepth 200000 in
theorem q_1820 : Cond.instanceMethod yX12_value ∈ tb := tb_mem 1820 (by decide +kernel) rfl
set_option maxRecDepth 200000 in
theorem q_1821 : Cond.selects "CityRoadModel" yX12_value yX12_value ∈ tb := tb_mem 1821 (by decide +kernel) rfl
set_option maxRecDepth 200000 in
theorem q_1819 : Cond.methodLink "CityRoadLaw" 65 yX12_value ∈ tb := tb_mem 1819 (by decide +kernel) rfl
set_option maxRecDepth 200000 in
theorem q_694 : Cond.code yX11_house cX11_house 3 (some .int) ∈ tb := tb_mem 694 (by rfl) rfl
set_option maxRecDepth 200000 in
theorem q_692 : Cond.instanceMethod yX11_house ∈ tb := tb_mem 692 (by decide +kernel) rfl
set_option maxRecDepth 200000 in
theorem q_693 : Cond.selects "CityRoad" yX11_house yX11_house ∈ tb := tb_mem 693 (by decide +kernel) rfl
set_option maxRecDepth 200000 in
theorem q_691 : Cond.methodLink "CityRoadLaw" 66 yX11_house ∈ tb := tb_mem 691 (by decide +kernel) rfl
set_option maxRecDepth 200000 in
theorem q_1826 : Cond.code yX12_house cX12_house 3 (some .int) ∈ tb := tb_mem 1826 (by rfl) rfl
set_option maxRecDepth 200000 in
theorem q_1824 : Cond.instanceMethod yX12_house ∈ tb := tb_mem 1824 (by decide +kernel) rfl
set_option maxRecDepth 200000 in
theorem q_1825 : Cond.selects "CityRoadModel" yX12_house yX12_house ∈ tb := tb_mem 1825 (by decide +kernel) rfl
set_option maxRecDepth 200000 in
theorem q_1823 : Cond.methodLink "CityRoadLaw" 69 yX12_house ∈ tb := tb_mem 1823 (by decide +kernel) rfl
set_option maxRecDepth 200000 in
theorem q_702 : Cond.code yX11_person cX11_person 6 (some .int) ∈ tb := tb_mem 702 (by rfl) rfl
set_option maxRecDepth 200000 in
theorem q_700 : Cond.instanceMethod yX11_person ∈ tb := tb_mem 700 (by decide +kernel) rfl
set_option maxRecDepth 200000 in
theorem q_701 : Cond.selects "CityRoad" yX11_person yX11_person ∈ tb := tb_mem 701 (by decide +kernel) rfl
set_option maxRecDepth 200000 in
theorem q_699 : Cond.methodLink "CityRoadLaw" 70 yX11_person ∈ tb := tb_mem 699 (by decide +kernel) rfl
set_option maxRecDepth 200000 in
theorem q_1842 : Cond.code yX12_person cX12_person 5 (some .int) ∈ tb := tb_mem 1842 (by rfl) rfl
set_option maxRecDepth 200000 in
theorem q_1840 : Cond.instanceMethod yX12_person ∈ tb := tb_mem 1840 (by decide +kernel) rfl
set_option maxRecDepth 200000 in
theorem q_1841 : Cond.selects "CityRoadModel" yX12_person yX12_person ∈ tb := tb_mem 1841 (by decide +kernel) rfl
set_option maxRecDepth 200000 in
theorem q_1839 : Cond.methodLink "CityRoadLaw" 74 yX12_person ∈ tb := tb_mem 1839 (by decide +kernel) rfl
set_option maxRecDepth 200000 in
theorem q_734 : Cond.code yX11_who cX11_who 3 (some .int) ∈ tb := tb_mem 734 (by rfl) rfl
set_option maxRecDepth 200000 in
theorem q_732 : Cond.instanceMethod yX11_who ∈ tb := tb_mem 732 (by decide +kernel) rfl
set_option maxRecDepth 200000 in
theorem q_733 : Cond.selects "CityRoad" yX11_who yX11_who ∈ tb := tb_mem 733 (by decide +kernel) rfl
set_option maxRecDepth 200000 in
theorem q_731 : Cond.methodLink "CityRoadLaw" 75 yX11_who ∈ tb := tb_mem 731 (by decide +kernel) rfl
set_option maxRecDepth 200000 in
theorem q_1850 : Cond.code yX12_who cX12_who 3 (some .int) ∈ tb := tb_mem 1850 (by rfl) rfl
set_option maxRecDepth 200000 in
theorem q_1848 : Cond.instanceMethod yX12_who ∈ tb := tb_mem 1848 (by decide +kernel) rfl
set_option maxRecDepth 200000 in
theorem q_1849 : Cond.selects "CityRoadModel" yX12_who yX12_who ∈ tb := tb_mem 1849 (by decide +kernel) rfl
set_option maxRecDepth 200000 in
theorem q_1847 : Cond.methodLink "CityRoadLaw" 78 yX12_who ∈ tb := tb_mem 1847 (by decide +kernel) rfl
set_option maxRecDepth 200000 in
theorem q_746 : Cond.code yX11_mean cX11_mean 5 (some .int) ∈ tb := tb_mem 746 (by rfl) rfl
set_option maxRecDepth 200000 in
theorem q_744 : Cond.instanceMethod yX11_mean ∈ tb := tb_mem 744 (by decide +kernel) rfl
set_option maxRecDepth 200000 in
theorem q_745 : Cond.selects "CityRoad" yX11_mean yX11_mean ∈ tb := tb_mem 745 (by decide +kernel) rfl
set_option maxRecDepth 200000 in
theorem q_743 : Cond.methodLink "CityRoadLaw" 79 yX11_mean ∈ tb := tb_mem 743 (by decide +kernel) rfl
set_option maxRecDepth 200000 in
theorem q_1862 : Cond.code yX12_mean cX12_mean 6 (some .int) ∈ tb := tb_mem 1862 (by rfl) rfl
set_option maxRecDepth 200000 in
theorem q_1860 : Cond.instanceMethod yX12_mean ∈ tb := tb_mem 1860 (by decide +kernel) rfl
set_option maxRecDepth 200000 in
theorem q_1861 : Cond.selects "CityRoadModel" yX12_mean yX12_mean ∈ tb := tb_mem 1861 (by decide +kernel) rfl
set_option maxRecDepth 200000 in
theorem q_1859 : Cond.methodLink "CityRoadLaw" 82 yX12_mean ∈ tb := tb_mem 1859 (by decide +kernel) rfl
set_option maxRecDepth 200000 in
theorem q_751 : Cond.code yX11_rule cX11_rule 3 (some .int) ∈ tb := tb_mem 751 (by rfl) rfl
set_option maxRecDepth 200000 in
theorem q_749 : Cond.instanceMethod yX11_rule ∈ tb := tb_mem 749 (by decide +kernel) rfl
set_option maxRecDepth 200000 in
theorem q_750 : Cond.selects "CityRoad" yX11_rule yX11_rule ∈ tb := tb_mem 750 (by decide +kernel) rfl
set_option maxRecDepth 200000 in
theorem q_748 : Cond.methodLink "CityRoadLaw" 83 yX11_rule ∈ tb := tb_mem 748 (by decide +kernel) rfl
set_option maxRecDepth 200000 in
theorem q_1761 : Cond.code yX12_rule cX12_rule 4 (some .int) ∈ tb := tb_mem 1761 (by rfl) rfl
set_option maxRecDepth 200000 in
theorem q_1759 : Cond.instanceMethod yX12_rule ∈ tb := tb_mem 1759 (by decide +kernel) rfl
set_option maxRecDepth 200000 in
theorem q_1760 : Cond.selects "CityRoadModel" yX12_rule yX12_rule ∈ tb := tb_mem 1760 (by decide +kernel) rfl
set_option maxRecDepth 200000 in
theorem q_1758 : Cond.methodLink "CityRoadLaw" 86 yX12_rule ∈ tb := tb_mem 1758 (by decide +kernel) rfl
set_option maxRecDepth 200000 in
theorem q_767 : Cond.code yX11_force cX11_force 4 (some .int) ∈ tb := tb_mem 767 (by rfl) rfl
set_option maxRecDepth 200000 in
theorem q_765 : Cond.instanceMethod yX11_force ∈ tb := tb_mem 765 (by decide +kernel) rfl
set_option maxRecDepth 200000 in
theorem q_766 : Cond.selects "CityRoad" yX11_force yX11_force ∈ tb := tb_mem 766 (by decide +kernel) rfl
set_option maxRecDepth 200000 in
theorem q_764 : Cond.methodLink "CityRoadLaw" 87 yX11_force ∈ tb := tb_mem 764 (by decide +kernel) rfl
set_option maxRecDepth 200000 in
theorem q_1768 : Cond.code yX12_force cX12_force 4 (some .int) ∈ tb := tb_mem 1768 (by rfl) rfl
set_option maxRecDepth 200000 in
theorem q_1766 : Cond.instanceMethod yX12_force ∈ tb := tb_mem 1766 (by decide +kernel) rfl
set_option maxRecDepth 200000 in
theorem q_1767 : Cond.selects "CityRoadModel" yX12_force yX12_force ∈ tb := tb_mem 1767 (by decide +kernel) rfl
set_option maxRecDepth 200000 in
theorem q_1765 : Cond.methodLink "CityRoadLaw" 90 yX12_force ∈ tb := tb_mem 1765 (by decide +kernel) rfl
theorem dL_law_264 : decode cL_law 264 = .ok (.aload_n 1, 1) := by decide +kernel
theorem dL_law_265 : decode cL_law 265 = .ok (.aload_n 0, 1) := by decide +kernel
theorem dL_law_266 : decode cL_law 266 = .ok (.iload_n 3, 1) := by decide +kernel
theorem dL_law_267 : decode cL_law 267 = .ok (.iconst 1, 1) := by decide +kernel
theorem dL_law_268 : decode cL_law 268 = .ok (.iadd, 1) := by decide +kernel
theorem dL_law_269 : decode cL_law 269 = .ok (.iaload, 1) := by decide +kernel
theorem dL_law_270 : decode cL_law 270 = .ok (.aload_n 0, 1) := by decide +kernel
theorem dL_law_271 : decode cL_law 271 = .ok (.iload_n 3, 1) := by decide +kernel
theorem dL_law_272 : decode cL_law 272 = .ok (.iconst 2, 1) := by decide +kernel
theorem dL_law_273 : decode cL_law 273 = .ok (.iadd, 1) := by decide +kernel
theorem dL_law_274 : decode cL_law 274 = .ok (.iaload, 1) := by decide +kernel
theorem dL_law_275 : decode cL_law 275 = .ok (.invokevirtual 13, 3) := by decide +kernel
theorem dL_law_278 : decode cL_law 278 = .ok (.aload_n 2, 1) := by decide +kernel
theorem dL_law_279 : decode cL_law 279 = .ok (.aload_n 0, 1) := by decide +kernel
theorem dL_law_280 : decode cL_law 280 = .ok (.iload_n 3, 1) := by decide +kernel
theorem dL_law_281 : decode cL_law 281 = .ok (.iconst 1, 1) := by decide +kernel
theorem dL_law_282 : decode cL_law 282 = .ok (.iadd, 1) := by decide +kernel
theorem dL_law_283 : decode cL_law 283 = .ok (.iaload, 1) := by decide +kernel
theorem dL_law_284 : decode cL_law 284 = .ok (.aload_n 0, 1) := by decide +kernel
theorem dL_law_285 : decode cL_law 285 = .ok (.iload_n 3, 1) := by decide +kernel
theorem dL_law_286 : decode cL_law 286 = .ok (.iconst 2, 1) := by decide +kernel
theorem dL_law_287 : decode cL_law 287 = .ok (.iadd, 1) := by decide +kernel
theorem dL_law_288 : decode cL_law 288 = .ok (.iaload, 1) := by decide +kernel
theorem dL_law_289 : decode cL_law 289 = .ok (.invokevirtual 17, 3) := by decide +kernel
theorem dL_law_292 : decode cL_law 292 = .ok (.if_icmp .eq 1663, 3) := by decide +kernel
theorem dL_law_297 : decode cL_law 297 = .ok (.aload_n 1, 1) := by decide +kernel
theorem dL_law_298 : decode cL_law 298 = .ok (.aload_n 0, 1) := by decide +kernel
theorem dL_law_299 : decode cL_law 299 = .ok (.iload_n 3, 1) := by decide +kernel
theorem dL_law_300 : decode cL_law 300 = .ok (.iconst 1, 1) := by decide +kernel
theorem dL_law_301 : decode cL_law 301 = .ok (.iadd, 1) := by decide +kernel
theorem dL_law_302 : decode cL_law 302 = .ok (.iaload, 1) := by decide +kernel
theorem dL_law_303 : decode cL_law 303 = .ok (.aload_n 0, 1) := by decide +kernel
theorem dL_law_304 : decode cL_law 304 = .ok (.iload_n 3, 1) := by decide +kernel
theorem dL_law_305 : decode cL_law 305 = .ok (.iconst 2, 1) := by decide +kernel
theorem dL_law_306 : decode cL_law 306 = .ok (.iadd, 1) := by decide +kernel
theorem dL_law_307 : decode cL_law 307 = .ok (.iaload, 1) := by decide +kernel
theorem dL_law_308 : decode cL_law 308 = .ok (.aload_n 0, 1) := by decide +kernel
theorem dL_law_309 : decode cL_law 309 = .ok (.iload_n 3, 1) := by decide +kernel
theorem dL_law_310 : decode cL_law 310 = .ok (.iconst 3, 1) := by decide +kernel
theorem dL_law_311 : decode cL_law 311 = .ok (.iadd, 1) := by decide +kernel
theorem dL_law_312 : decode cL_law 312 = .ok (.iaload, 1) := by decide +kernel
theorem dL_law_313 : decode cL_law 313 = .ok (.invokevirtual 18, 3) := by decide +kernel
theorem dL_law_316 : decode cL_law 316 = .ok (.aload_n 2, 1) := by decide +kernel
theorem dL_law_317 : decode cL_law 317 = .ok (.aload_n 0, 1) := by decide +kernel
theorem dL_law_318 : decode cL_law 318 = .ok (.iload_n 3, 1) := by decide +kernel
theorem dL_law_319 : decode cL_law 319 = .ok (.iconst 1, 1) := by decide +kernel
theorem dL_law_320 : decode cL_law 320 = .ok (.iadd, 1) := by decide +kernel
theorem dL_law_321 : decode cL_law 321 = .ok (.iaload, 1) := by decide +kernel
theorem dL_law_322 : decode cL_law 322 = .ok (.aload_n 0, 1) := by decide +kernel
theorem dL_law_323 : decode cL_law 323 = .ok (.iload_n 3, 1) := by decide +kernel
theorem dL_law_324 : decode cL_law 324 = .ok (.iconst 2, 1) := by decide +kernel
theorem dL_law_325 : decode cL_law 325 = .ok (.iadd, 1) := by decide +kernel
theorem dL_law_326 : decode cL_law 326 = .ok (.iaload, 1) := by decide +kernel
theorem dL_law_327 : decode cL_law 327 = .ok (.aload_n 0, 1) := by decide +kernel
theorem dL_law_328 : decode cL_law 328 = .ok (.iload_n 3, 1) := by decide +kernel
theorem dL_law_329 : decode cL_law 329 = .ok (.iconst 3, 1) := by decide +kernel
theorem dL_law_330 : decode cL_law 330 = .ok (.iadd, 1) := by decide +kernel
theorem dL_law_331 : decode cL_law 331 = .ok (.iaload, 1) := by decide +kernel
theorem dL_law_332 : decode cL_law 332 = .ok (.invokevirtual 22, 3) := by decide +kernel
theorem dL_law_335 : decode cL_law 335 = .ok (.if_icmp .eq 1620, 3) := by decide +kernel
theorem dL_law_340 : decode cL_law 340 = .ok (.aload_n 1, 1) := by decide +kernel
theorem dL_law_341 : decode cL_law 341 = .ok (.aload_n 0, 1) := by decide +kernel
theorem dL_law_342 : decode cL_law 342 = .ok (.iload_n 3, 1) := by decide +kernel
theorem dL_law_343 : decode cL_law 343 = .ok (.iconst 1, 1) := by decide +kernel
theorem dL_law_344 : decode cL_law 344 = .ok (.iadd, 1) := by decide +kernel
theorem dL_law_345 : decode cL_law 345 = .ok (.iaload, 1) := by decide +kernel
theorem dL_law_346 : decode cL_law 346 = .ok (.invokevirtual 23, 3) := by decide +kernel
theorem dL_law_349 : decode cL_law 349 = .ok (.aload_n 2, 1) := by decide +kernel
theorem dL_law_350 : decode cL_law 350 = .ok (.aload_n 0, 1) := by decide +kernel
theorem dL_law_351 : decode cL_law 351 = .ok (.iload_n 3, 1) := by decide +kernel
theorem dL_law_352 : decode cL_law 352 = .ok (.iconst 1, 1) := by decide +kernel
theorem dL_law_353 : decode cL_law 353 = .ok (.iadd, 1) := by decide +kernel
theorem dL_law_354 : decode cL_law 354 = .ok (.iaload, 1) := by decide +kernel
theorem dL_law_355 : decode cL_law 355 = .ok (.invokevirtual 27, 3) := by decide +kernel
theorem dL_law_358 : decode cL_law 358 = .ok (.if_icmp .eq 1597, 3) := by decide +kernel
theorem dL_law_363 : decode cL_law 363 = .ok (.aload_n 1, 1) := by decide +kernel
theorem dL_law_364 : decode cL_law 364 = .ok (.aload_n 0, 1) := by decide +kernel
theorem dL_law_365 : decode cL_law 365 = .ok (.iload_n 3, 1) := by decide +kernel
theorem dL_law_366 : decode cL_law 366 = .ok (.iconst 1, 1) := by decide +kernel
theorem dL_law_367 : decode cL_law 367 = .ok (.iadd, 1) := by decide +kernel
theorem dL_law_368 : decode cL_law 368 = .ok (.iaload, 1) := by decide +kernel
theorem dL_law_369 : decode cL_law 369 = .ok (.aload_n 0, 1) := by decide +kernel
theorem dL_law_370 : decode cL_law 370 = .ok (.iload_n 3, 1) := by decide +kernel
theorem dL_law_371 : decode cL_law 371 = .ok (.iconst 2, 1) := by decide +kernel
theorem dL_law_372 : decode cL_law 372 = .ok (.iadd, 1) := by decide +kernel
theorem dL_law_373 : decode cL_law 373 = .ok (.iaload, 1) := by decide +kernel
theorem dL_law_374 : decode cL_law 374 = .ok (.aload_n 0, 1) := by decide +kernel
theorem dL_law_375 : decode cL_law 375 = .ok (.iload_n 3, 1) := by decide +kernel
theorem dL_law_376 : decode cL_law 376 = .ok (.iconst 3, 1) := by decide +kernel
theorem dL_law_377 : decode cL_law 377 = .ok (.iadd, 1) := by decide +kernel
theorem dL_law_378 : decode cL_law 378 = .ok (.iaload, 1) := by decide +kernel
theorem dL_law_379 : decode cL_law 379 = .ok (.aload_n 0, 1) := by decide +kernel
theorem dL_law_380 : decode cL_law 380 = .ok (.iload_n 3, 1) := by decide +kernel
theorem dL_law_381 : decode cL_law 381 = .ok (.iconst 4, 1) := by decide +kernel
theorem dL_law_382 : decode cL_law 382 = .ok (.iadd, 1) := by decide +kernel
theorem dL_law_383 : decode cL_law 383 = .ok (.iaload, 1) := by decide +kernel
theorem dL_law_384 : decode cL_law 384 = .ok (.aload_n 0, 1) := by decide +kernel
theorem dL_law_385 : decode cL_law 385 = .ok (.iload_n 3, 1) := by decide +kernel
theorem dL_law_386 : decode cL_law 386 = .ok (.iconst 5, 1) := by decide +kernel
theorem dL_law_387 : decode cL_law 387 = .ok (.iadd, 1) := by decide +kernel
theorem dL_law_388 : decode cL_law 388 = .ok (.iaload, 1) := by decide +kernel
theorem dL_law_389 : decode cL_law 389 = .ok (.invokevirtual 28, 3) := by decide +kernel
theorem dL_law_392 : decode cL_law 392 = .ok (.aload_n 2, 1) := by decide +kernel
theorem dL_law_393 : decode cL_law 393 = .ok (.aload_n 0, 1) := by decide +kernel
theorem dL_law_394 : decode cL_law 394 = .ok (.iload_n 3, 1) := by decide +kernel
theorem dL_law_395 : decode cL_law 395 = .ok (.iconst 1, 1) := by decide +kernel
theorem dL_law_396 : decode cL_law 396 = .ok (.iadd, 1) := by decide +kernel
theorem dL_law_397 : decode cL_law 397 = .ok (.iaload, 1) := by decide +kernel
theorem dL_law_398 : decode cL_law 398 = .ok (.aload_n 0, 1) := by decide +kernel
theorem dL_law_399 : decode cL_law 399 = .ok (.iload_n 3, 1) := by decide +kernel
theorem dL_law_400 : decode cL_law 400 = .ok (.iconst 2, 1) := by decide +kernel
theorem dL_law_401 : decode cL_law 401 = .ok (.iadd, 1) := by decide +kernel
theorem dL_law_402 : decode cL_law 402 = .ok (.iaload, 1) := by decide +kernel
theorem dL_law_403 : decode cL_law 403 = .ok (.aload_n 0, 1) := by decide +kernel
theorem dL_law_404 : decode cL_law 404 = .ok (.iload_n 3, 1) := by decide +kernel
theorem dL_law_405 : decode cL_law 405 = .ok (.iconst 3, 1) := by decide +kernel
theorem dL_law_406 : decode cL_law 406 = .ok (.iadd, 1) := by decide +kernel
theorem dL_law_407 : decode cL_law 407 = .ok (.iaload, 1) := by decide +kernel
theorem dL_law_408 : decode cL_law 408 = .ok (.aload_n 0, 1) := by decide +kernel
theorem dL_law_409 : decode cL_law 409 = .ok (.iload_n 3, 1) := by decide +kernel
theorem dL_law_410 : decode cL_law 410 = .ok (.iconst 4, 1) := by decide +kernel
theorem dL_law_411 : decode cL_law 411 = .ok (.iadd, 1) := by decide +kernel
theorem dL_law_412 : decode cL_law 412 = .ok (.iaload, 1) := by decide +kernel
theorem dL_law_413 : decode cL_law 413 = .ok (.aload_n 0, 1) := by decide +kernel
theorem dL_law_414 : decode cL_law 414 = .ok (.iload_n 3, 1) := by decide +kernel
theorem dL_law_415 : decode cL_law 415 = .ok (.iconst 5, 1) := by decide +kernel
theorem dL_law_416 : decode cL_law 416 = .ok (.iadd, 1) := by decide +kernel
theorem dL_law_417 : decode cL_law 417 = .ok (.iaload, 1) := by decide +kernel
theorem dL_law_418 : decode cL_law 418 = .ok (.invokevirtual 32, 3) := by decide +kernel
theorem dL_law_421 : decode cL_law 421 = .ok (.if_icmp .eq 1534, 3) := by decide +kernel
theorem dL_law_426 : decode cL_law 426 = .ok (.aload_n 1, 1) := by decide +kernel
theorem dL_law_427 : decode cL_law 427 = .ok (.aload_n 0, 1) := by decide +kernel
theorem dL_law_428 : decode cL_law 428 = .ok (.iload_n 3, 1) := by decide +kernel
theorem dL_law_429 : decode cL_law 429 = .ok (.iconst 1, 1) := by decide +kernel
theorem dL_law_430 : decode cL_law 430 = .ok (.iadd, 1) := by decide +kernel
theorem dL_law_431 : decode cL_law 431 = .ok (.iaload, 1) := by decide +kernel
theorem dL_law_432 : decode cL_law 432 = .ok (.aload_n 0, 1) := by decide +kernel
theorem dL_law_433 : decode cL_law 433 = .ok (.iload_n 3, 1) := by decide +kernel
theorem dL_law_434 : decode cL_law 434 = .ok (.iconst 2, 1) := by decide +kernel
theorem dL_law_435 : decode cL_law 435 = .ok (.iadd, 1) := by decide +kernel
theorem dL_law_436 : decode cL_law 436 = .ok (.iaload, 1) := by decide +kernel
theorem dL_law_437 : decode cL_law 437 = .ok (.invokevirtual 33, 3) := by decide +kernel
theorem dL_law_440 : decode cL_law 440 = .ok (.aload_n 2, 1) := by decide +kernel
theorem dL_law_441 : decode cL_law 441 = .ok (.aload_n 0, 1) := by decide +kernel
theorem dL_law_442 : decode cL_law 442 = .ok (.iload_n 3, 1) := by decide +kernel
theorem dL_law_443 : decode cL_law 443 = .ok (.iconst 1, 1) := by decide +kernel
theorem dL_law_444 : decode cL_law 444 = .ok (.iadd, 1) := by decide +kernel
theorem dL_law_445 : decode cL_law 445 = .ok (.iaload, 1) := by decide +kernel
theorem dL_law_446 : decode cL_law 446 = .ok (.aload_n 0, 1) := by decide +kernel
theorem dL_law_447 : decode cL_law 447 = .ok (.iload_n 3, 1) := by decide +kernel
theorem dL_law_448 : decode cL_law 448 = .ok (.iconst 2, 1) := by decide +kernel
theorem dL_law_449 : decode cL_law 449 = .ok (.iadd, 1) := by decide +kernel
theorem dL_law_450 : decode cL_law 450 = .ok (.iaload, 1) := by decide +kernel
theorem dL_law_451 : decode cL_law 451 = .ok (.invokevirtual 36, 3) := by decide +kernel
theorem dL_law_454 : decode cL_law 454 = .ok (.if_icmp .eq 1501, 3) := by decide +kernel
theorem dL_law_459 : decode cL_law 459 = .ok (.aload_n 1, 1) := by decide +kernel
theorem dL_law_460 : decode cL_law 460 = .ok (.aload_n 0, 1) := by decide +kernel
theorem dL_law_461 : decode cL_law 461 = .ok (.iload_n 3, 1) := by decide +kernel
theorem dL_law_462 : decode cL_law 462 = .ok (.iconst 1, 1) := by decide +kernel
theorem dL_law_463 : decode cL_law 463 = .ok (.iadd, 1) := by decide +kernel
theorem dL_law_464 : decode cL_law 464 = .ok (.iaload, 1) := by decide +kernel
theorem dL_law_465 : decode cL_law 465 = .ok (.aload_n 0, 1) := by decide +kernel
theorem dL_law_466 : decode cL_law 466 = .ok (.iload_n 3, 1) := by decide +kernel
theorem dL_law_467 : decode cL_law 467 = .ok (.iconst 2, 1) := by decide +kernel
theorem dL_law_468 : decode cL_law 468 = .ok (.iadd, 1) := by decide +kernel
theorem dL_law_469 : decode cL_law 469 = .ok (.iaload, 1) := by decide +kernel
theorem dL_law_470 : decode cL_law 470 = .ok (.aload_n 0, 1) := by decide +kernel
theorem dL_law_471 : decode cL_law 471 = .ok (.iload_n 3, 1) := by decide +kernel
theorem dL_law_472 : decode cL_law 472 = .ok (.iconst 3, 1) := by decide +kernel
theorem dL_law_473 : decode cL_law 473 = .ok (.iadd, 1) := by decide +kernel
theorem dL_law_474 : decode cL_law 474 = .ok (.iaload, 1) := by decide +kernel
theorem dL_law_475 : decode cL_law 475 = .ok (.invokevirtual 37, 3) := by decide +kernel
theorem dL_law_478 : decode cL_law 478 = .ok (.aload_n 2, 1) := by decide +kernel
theorem dL_law_479 : decode cL_law 479 = .ok (.aload_n 0, 1) := by decide +kernel
theorem dL_law_480 : decode cL_law 480 = .ok (.iload_n 3, 1) := by decide +kernel
theorem dL_law_481 : decode cL_law 481 = .ok (.iconst 1, 1) := by decide +kernel
theorem dL_law_482 : decode cL_law 482 = .ok (.iadd, 1) := by decide +kernel
theorem dL_law_483 : decode cL_law 483 = .ok (.iaload, 1) := by decide +kernel
theorem dL_law_484 : decode cL_law 484 = .ok (.aload_n 0, 1) := by decide +kernel
theorem dL_law_485 : decode cL_law 485 = .ok (.iload_n 3, 1) := by decide +kernel
theorem dL_law_486 : decode cL_law 486 = .ok (.iconst 2, 1) := by decide +kernel
theorem dL_law_487 : decode cL_law 487 = .ok (.iadd, 1) := by decide +kernel
theorem dL_law_488 : decode cL_law 488 = .ok (.iaload, 1) := by decide +kernel
theorem dL_law_489 : decode cL_law 489 = .ok (.aload_n 0, 1) := by decide +kernel
theorem dL_law_490 : decode cL_law 490 = .ok (.iload_n 3, 1) := by decide +kernel
theorem dL_law_491 : decode cL_law 491 = .ok (.iconst 3, 1) := by decide +kernel
theorem dL_law_492 : decode cL_law 492 = .ok (.iadd, 1) := by decide +kernel
theorem dL_law_493 : decode cL_law 493 = .ok (.iaload, 1) := by decide +kernel
theorem dL_law_494 : decode cL_law 494 = .ok (.invokevirtual 40, 3) := by decide +kernel
theorem dL_law_497 : decode cL_law 497 = .ok (.if_icmp .eq 1458, 3) := by decide +kernel
theorem dL_law_502 : decode cL_law 502 = .ok (.aload_n 1, 1) := by decide +kernel
theorem dL_law_503 : decode cL_law 503 = .ok (.aload_n 0, 1) := by decide +kernel
theorem dL_law_504 : decode cL_law 504 = .ok (.iload_n 3, 1) := by decide +kernel
theorem dL_law_505 : decode cL_law 505 = .ok (.iconst 1, 1) := by decide +kernel
theorem dL_law_506 : decode cL_law 506 = .ok (.iadd, 1) := by decide +kernel
theorem dL_law_507 : decode cL_law 507 = .ok (.iaload, 1) := by decide +kernel
theorem dL_law_508 : decode cL_law 508 = .ok (.invokevirtual 41, 3) := by decide +kernel
theorem dL_law_511 : decode cL_law 511 = .ok (.aload_n 2, 1) := by decide +kernel
theorem dL_law_512 : decode cL_law 512 = .ok (.aload_n 0, 1) := by decide +kernel
theorem dL_law_513 : decode cL_law 513 = .ok (.iload_n 3, 1) := by decide +kernel
theorem dL_law_514 : decode cL_law 514 = .ok (.iconst 1, 1) := by decide +kernel
theorem dL_law_515 : decode cL_law 515 = .ok (.iadd, 1) := by decide +kernel
theorem dL_law_516 : decode cL_law 516 = .ok (.iaload, 1) := by decide +kernel
theorem dL_law_517 : decode cL_law 517 = .ok (.invokevirtual 44, 3) := by decide +kernel
theorem dL_law_520 : decode cL_law 520 = .ok (.if_icmp .eq 1435, 3) := by decide +kernel
theorem dL_law_525 : decode cL_law 525 = .ok (.aload_n 1, 1) := by decide +kernel
theorem dL_law_526 : decode cL_law 526 = .ok (.aload_n 0, 1) := by decide +kernel
theorem dL_law_527 : decode cL_law 527 = .ok (.iload_n 3, 1) := by decide +kernel
theorem dL_law_528 : decode cL_law 528 = .ok (.iconst 1, 1) := by decide +kernel
theorem dL_law_529 : decode cL_law 529 = .ok (.iadd, 1) := by decide +kernel
theorem dL_law_530 : decode cL_law 530 = .ok (.iaload, 1) := by decide +kernel
theorem dL_law_531 : decode cL_law 531 = .ok (.invokevirtual 45, 3) := by decide +kernel
theorem dL_law_534 : decode cL_law 534 = .ok (.aload_n 2, 1) := by decide +kernel
theorem dL_law_535 : decode cL_law 535 = .ok (.aload_n 0, 1) := by decide +kernel
theorem dL_law_536 : decode cL_law 536 = .ok (.iload_n 3, 1) := by decide +kernel
theorem dL_law_537 : decode cL_law 537 = .ok (.iconst 1, 1) := by decide +kernel
theorem dL_law_538 : decode cL_law 538 = .ok (.iadd, 1) := by decide +kernel
theorem dL_law_539 : decode cL_law 539 = .ok (.iaload, 1) := by decide +kernel
theorem dL_law_540 : decode cL_law 540 = .ok (.invokevirtual 48, 3) := by decide +kernel
theorem dL_law_543 : decode cL_law 543 = .ok (.if_icmp .eq 1412, 3) := by decide +kernel
theorem dL_law_548 : decode cL_law 548 = .ok (.aload_n 1, 1) := by decide +kernel
theorem dL_law_549 : decode cL_law 549 = .ok (.aload_n 0, 1) := by decide +kernel
theorem dL_law_550 : decode cL_law 550 = .ok (.iload_n 3, 1) := by decide +kernel
theorem dL_law_551 : decode cL_law 551 = .ok (.iconst 1, 1) := by decide +kernel
theorem dL_law_552 : decode cL_law 552 = .ok (.iadd, 1) := by decide +kernel
theorem dL_law_553 : decode cL_law 553 = .ok (.iaload, 1) := by decide +kernel
theorem dL_law_554 : decode cL_law 554 = .ok (.aload_n 0, 1) := by decide +kernel
theorem dL_law_555 : decode cL_law 555 = .ok (.iload_n 3, 1) := by decide +kernel
theorem dL_law_556 : decode cL_law 556 = .ok (.iconst 2, 1) := by decide +kernel
theorem dL_law_557 : decode cL_law 557 = .ok (.iadd, 1) := by decide +kernel
theorem dL_law_558 : decode cL_law 558 = .ok (.iaload, 1) := by decide +kernel
theorem dL_law_559 : decode cL_law 559 = .ok (.aload_n 0, 1) := by decide +kernel
theorem dL_law_560 : decode cL_law 560 = .ok (.iload_n 3, 1) := by decide +kernel
theorem dL_law_561 : decode cL_law 561 = .ok (.iconst 3, 1) := by decide +kernel
theorem dL_law_562 : decode cL_law 562 = .ok (.iadd, 1) := by decide +kernel
theorem dL_law_563 : decode cL_law 563 = .ok (.iaload, 1) := by decide +kernel
theorem dL_law_564 : decode cL_law 564 = .ok (.invokevirtual 49, 3) := by decide +kernel
theorem dL_law_567 : decode cL_law 567 = .ok (.aload_n 2, 1) := by decide +kernel
theorem dL_law_568 : decode cL_law 568 = .ok (.aload_n 0, 1) := by decide +kernel
theorem dL_law_569 : decode cL_law 569 = .ok (.iload_n 3, 1) := by decide +kernel
theorem dL_law_570 : decode cL_law 570 = .ok (.iconst 1, 1) := by decide +kernel
theorem dL_law_571 : decode cL_law 571 = .ok (.iadd, 1) := by decide +kernel
theorem dL_law_572 : decode cL_law 572 = .ok (.iaload, 1) := by decide +kernel
theorem dL_law_573 : decode cL_law 573 = .ok (.aload_n 0, 1) := by decide +kernel
theorem dL_law_574 : decode cL_law 574 = .ok (.iload_n 3, 1) := by decide +kernel
theorem dL_law_575 : decode cL_law 575 = .ok (.iconst 2, 1) := by decide +kernel
theorem dL_law_576 : decode cL_law 576 = .ok (.iadd, 1) := by decide +kernel
theorem dL_law_577 : decode cL_law 577 = .ok (.iaload, 1) := by decide +kernel
theorem dL_law_578 : decode cL_law 578 = .ok (.aload_n 0, 1) := by decide +kernel
theorem dL_law_579 : decode cL_law 579 = .ok (.iload_n 3, 1) := by decide +kernel
theorem dL_law_580 : decode cL_law 580 = .ok (.iconst 3, 1) := by decide +kernel
theorem dL_law_581 : decode cL_law 581 = .ok (.iadd, 1) := by decide +kernel
theorem dL_law_582 : decode cL_law 582 = .ok (.iaload, 1) := by decide +kernel
theorem dL_law_583 : decode cL_law 583 = .ok (.invokevirtual 52, 3) := by decide +kernel
theorem dL_law_586 : decode cL_law 586 = .ok (.if_icmp .eq 1369, 3) := by decide +kernel
theorem dL_law_591 : decode cL_law 591 = .ok (.aload_n 1, 1) := by decide +kernel
theorem dL_law_592 : decode cL_law 592 = .ok (.aload_n 0, 1) := by decide +kernel
theorem dL_law_593 : decode cL_law 593 = .ok (.iload_n 3, 1) := by decide +kernel
theorem dL_law_594 : decode cL_law 594 = .ok (.iconst 1, 1) := by decide +kernel
theorem dL_law_595 : decode cL_law 595 = .ok (.iadd, 1) := by decide +kernel
theorem dL_law_596 : decode cL_law 596 = .ok (.iaload, 1) := by decide +kernel
theorem dL_law_597 : decode cL_law 597 = .ok (.aload_n 0, 1) := by decide +kernel
theorem dL_law_598 : decode cL_law 598 = .ok (.iload_n 3, 1) := by decide +kernel
theorem dL_law_599 : decode cL_law 599 = .ok (.iconst 2, 1) := by decide +kernel
theorem dL_law_600 : decode cL_law 600 = .ok (.iadd, 1) := by decide +kernel
theorem dL_law_601 : decode cL_law 601 = .ok (.iaload, 1) := by decide +kernel
theorem dL_law_602 : decode cL_law 602 = .ok (.aload_n 0, 1) := by decide +kernel
theorem dL_law_603 : decode cL_law 603 = .ok (.iload_n 3, 1) := by decide +kernel
theorem dL_law_604 : decode cL_law 604 = .ok (.iconst 3, 1) := by decide +kernel
theorem dL_law_605 : decode cL_law 605 = .ok (.iadd, 1) := by decide +kernel
theorem dL_law_606 : decode cL_law 606 = .ok (.iaload, 1) := by decide +kernel
theorem dL_law_607 : decode cL_law 607 = .ok (.aload_n 0, 1) := by decide +kernel
theorem dL_law_608 : decode cL_law 608 = .ok (.iload_n 3, 1) := by decide +kernel
theorem dL_law_609 : decode cL_law 609 = .ok (.iconst 4, 1) := by decide +kernel
theorem dL_law_610 : decode cL_law 610 = .ok (.iadd, 1) := by decide +kernel
theorem dL_law_611 : decode cL_law 611 = .ok (.iaload, 1) := by decide +kernel
theorem dL_law_612 : decode cL_law 612 = .ok (.invokevirtual 53, 3) := by decide +kernel
theorem dL_law_615 : decode cL_law 615 = .ok (.aload_n 2, 1) := by decide +kernel
theorem dL_law_616 : decode cL_law 616 = .ok (.aload_n 0, 1) := by decide +kernel
theorem dL_law_617 : decode cL_law 617 = .ok (.iload_n 3, 1) := by decide +kernel
theorem dL_law_618 : decode cL_law 618 = .ok (.iconst 1, 1) := by decide +kernel
theorem dL_law_619 : decode cL_law 619 = .ok (.iadd, 1) := by decide +kernel
theorem dL_law_620 : decode cL_law 620 = .ok (.iaload, 1) := by decide +kernel
theorem dL_law_621 : decode cL_law 621 = .ok (.aload_n 0, 1) := by decide +kernel
theorem dL_law_622 : decode cL_law 622 = .ok (.iload_n 3, 1) := by decide +kernel
theorem dL_law_623 : decode cL_law 623 = .ok (.iconst 2, 1) := by decide +kernel
theorem dL_law_624 : decode cL_law 624 = .ok (.iadd, 1) := by decide +kernel
theorem dL_law_625 : decode cL_law 625 = .ok (.iaload, 1) := by decide +kernel
theorem dL_law_626 : decode cL_law 626 = .ok (.aload_n 0, 1) := by decide +kernel
theorem dL_law_627 : decode cL_law 627 = .ok (.iload_n 3, 1) := by decide +kernel
theorem dL_law_628 : decode cL_law 628 = .ok (.iconst 3, 1) := by decide +kernel
theorem dL_law_629 : decode cL_law 629 = .ok (.iadd, 1) := by decide +kernel
theorem dL_law_630 : decode cL_law 630 = .ok (.iaload, 1) := by decide +kernel
theorem dL_law_631 : decode cL_law 631 = .ok (.aload_n 0, 1) := by decide +kernel
theorem dL_law_632 : decode cL_law 632 = .ok (.iload_n 3, 1) := by decide +kernel
theorem dL_law_633 : decode cL_law 633 = .ok (.iconst 4, 1) := by decide +kernel
theorem dL_law_634 : decode cL_law 634 = .ok (.iadd, 1) := by decide +kernel
theorem dL_law_635 : decode cL_law 635 = .ok (.iaload, 1) := by decide +kernel
theorem dL_law_636 : decode cL_law 636 = .ok (.invokevirtual 57, 3) := by decide +kernel
theorem dL_law_639 : decode cL_law 639 = .ok (.if_icmp .eq 1316, 3) := by decide +kernel
theorem dL_law_644 : decode cL_law 644 = .ok (.aload_n 1, 1) := by decide +kernel
theorem dL_law_645 : decode cL_law 645 = .ok (.aload_n 0, 1) := by decide +kernel
theorem dL_law_646 : decode cL_law 646 = .ok (.iload_n 3, 1) := by decide +kernel
theorem dL_law_647 : decode cL_law 647 = .ok (.iconst 1, 1) := by decide +kernel
theorem dL_law_648 : decode cL_law 648 = .ok (.iadd, 1) := by decide +kernel
theorem dL_law_649 : decode cL_law 649 = .ok (.iaload, 1) := by decide +kernel
theorem dL_law_650 : decode cL_law 650 = .ok (.aload_n 0, 1) := by decide +kernel
theorem dL_law_651 : decode cL_law 651 = .ok (.iload_n 3, 1) := by decide +kernel
theorem dL_law_652 : decode cL_law 652 = .ok (.iconst 2, 1) := by decide +kernel
theorem dL_law_653 : decode cL_law 653 = .ok (.iadd, 1) := by decide +kernel
theorem dL_law_654 : decode cL_law 654 = .ok (.iaload, 1) := by decide +kernel
theorem dL_law_655 : decode cL_law 655 = .ok (.invokevirtual 58, 3) := by decide +kernel
theorem dL_law_658 : decode cL_law 658 = .ok (.aload_n 2, 1) := by decide +kernel
theorem dL_law_659 : decode cL_law 659 = .ok (.aload_n 0, 1) := by decide +kernel
theorem dL_law_660 : decode cL_law 660 = .ok (.iload_n 3, 1) := by decide +kernel
theorem dL_law_661 : decode cL_law 661 = .ok (.iconst 1, 1) := by decide +kernel
theorem dL_law_662 : decode cL_law 662 = .ok (.iadd, 1) := by decide +kernel
theorem dL_law_663 : decode cL_law 663 = .ok (.iaload, 1) := by decide +kernel
theorem dL_law_664 : decode cL_law 664 = .ok (.aload_n 0, 1) := by decide +kernel
theorem dL_law_665 : decode cL_law 665 = .ok (.iload_n 3, 1) := by decide +kernel
theorem dL_law_666 : decode cL_law 666 = .ok (.iconst 2, 1) := by decide +kernel
theorem dL_law_667 : decode cL_law 667 = .ok (.iadd, 1) := by decide +kernel
theorem dL_law_668 : decode cL_law 668 = .ok (.iaload, 1) := by decide +kernel
theorem dL_law_669 : decode cL_law 669 = .ok (.invokevirtual 61, 3) := by decide +kernel
theorem dL_law_672 : decode cL_law 672 = .ok (.if_icmp .eq 1283, 3) := by decide +kernel
theorem dL_law_677 : decode cL_law 677 = .ok (.aload_n 1, 1) := by decide +kernel
theorem dL_law_678 : decode cL_law 678 = .ok (.aload_n 0, 1) := by decide +kernel
theorem dL_law_679 : decode cL_law 679 = .ok (.iload_n 3, 1) := by decide +kernel
theorem dL_law_680 : decode cL_law 680 = .ok (.iconst 1, 1) := by decide +kernel
theorem dL_law_681 : decode cL_law 681 = .ok (.iadd, 1) := by decide +kernel
theorem dL_law_682 : decode cL_law 682 = .ok (.iaload, 1) := by decide +kernel
theorem dL_law_683 : decode cL_law 683 = .ok (.aload_n 0, 1) := by decide +kernel
theorem dL_law_684 : decode cL_law 684 = .ok (.iload_n 3, 1) := by decide +kernel
theorem dL_law_685 : decode cL_law 685 = .ok (.iconst 2, 1) := by decide +kernel
theorem dL_law_686 : decode cL_law 686 = .ok (.iadd, 1) := by decide +kernel
theorem dL_law_687 : decode cL_law 687 = .ok (.iaload, 1) := by decide +kernel
theorem dL_law_688 : decode cL_law 688 = .ok (.invokevirtual 62, 3) := by decide +kernel
theorem dL_law_691 : decode cL_law 691 = .ok (.aload_n 2, 1) := by decide +kernel
theorem dL_law_692 : decode cL_law 692 = .ok (.aload_n 0, 1) := by decide +kernel
theorem dL_law_693 : decode cL_law 693 = .ok (.iload_n 3, 1) := by decide +kernel
theorem dL_law_694 : decode cL_law 694 = .ok (.iconst 1, 1) := by decide +kernel
theorem dL_law_695 : decode cL_law 695 = .ok (.iadd, 1) := by decide +kernel
theorem dL_law_696 : decode cL_law 696 = .ok (.iaload, 1) := by decide +kernel
theorem dL_law_697 : decode cL_law 697 = .ok (.aload_n 0, 1) := by decide +kernel
theorem dL_law_698 : decode cL_law 698 = .ok (.iload_n 3, 1) := by decide +kernel
theorem dL_law_699 : decode cL_law 699 = .ok (.iconst 2, 1) := by decide +kernel
theorem dL_law_700 : decode cL_law 700 = .ok (.iadd, 1) := by decide +kernel
theorem dL_law_701 : decode cL_law 701 = .ok (.iaload, 1) := by decide +kernel
theorem dL_law_702 : decode cL_law 702 = .ok (.invokevirtual 65, 3) := by decide +kernel
theorem dL_law_705 : decode cL_law 705 = .ok (.if_icmp .eq 1250, 3) := by decide +kernel
theorem dL_law_710 : decode cL_law 710 = .ok (.aload_n 1, 1) := by decide +kernel
theorem dL_law_711 : decode cL_law 711 = .ok (.aload_n 0, 1) := by decide +kernel
theorem dL_law_712 : decode cL_law 712 = .ok (.iload_n 3, 1) := by decide +kernel
theorem dL_law_713 : decode cL_law 713 = .ok (.iconst 1, 1) := by decide +kernel
theorem dL_law_714 : decode cL_law 714 = .ok (.iadd, 1) := by decide +kernel
theorem dL_law_715 : decode cL_law 715 = .ok (.iaload, 1) := by decide +kernel
theorem dL_law_716 : decode cL_law 716 = .ok (.aload_n 0, 1) := by decide +kernel
theorem dL_law_717 : decode cL_law 717 = .ok (.iload_n 3, 1) := by decide +kernel
theorem dL_law_718 : decode cL_law 718 = .ok (.iconst 2, 1) := by decide +kernel
theorem dL_law_719 : decode cL_law 719 = .ok (.iadd, 1) := by decide +kernel
theorem dL_law_720 : decode cL_law 720 = .ok (.iaload, 1) := by decide +kernel
theorem dL_law_721 : decode cL_law 721 = .ok (.invokevirtual 66, 3) := by decide +kernel
theorem dL_law_724 : decode cL_law 724 = .ok (.aload_n 2, 1) := by decide +kernel
theorem dL_law_725 : decode cL_law 725 = .ok (.aload_n 0, 1) := by decide +kernel
theorem dL_law_726 : decode cL_law 726 = .ok (.iload_n 3, 1) := by decide +kernel
theorem dL_law_727 : decode cL_law 727 = .ok (.iconst 1, 1) := by decide +kernel
theorem dL_law_728 : decode cL_law 728 = .ok (.iadd, 1) := by decide +kernel
theorem dL_law_729 : decode cL_law 729 = .ok (.iaload, 1) := by decide +kernel
theorem dL_law_730 : decode cL_law 730 = .ok (.aload_n 0, 1) := by decide +kernel
theorem dL_law_731 : decode cL_law 731 = .ok (.iload_n 3, 1) := by decide +kernel
theorem dL_law_732 : decode cL_law 732 = .ok (.iconst 2, 1) := by decide +kernel
theorem dL_law_733 : decode cL_law 733 = .ok (.iadd, 1) := by decide +kernel
theorem dL_law_734 : decode cL_law 734 = .ok (.iaload, 1) := by decide +kernel
theorem dL_law_735 : decode cL_law 735 = .ok (.invokevirtual 69, 3) := by decide +kernel
theorem dL_law_738 : decode cL_law 738 = .ok (.if_icmp .eq 1217, 3) := by decide +kernel
theorem dL_law_743 : decode cL_law 743 = .ok (.aload_n 1, 1) := by decide +kernel
theorem dL_law_744 : decode cL_law 744 = .ok (.aload_n 0, 1) := by decide +kernel
theorem dL_law_745 : decode cL_law 745 = .ok (.iload_n 3, 1) := by decide +kernel
theorem dL_law_746 : decode cL_law 746 = .ok (.iconst 1, 1) := by decide +kernel
theorem dL_law_747 : decode cL_law 747 = .ok (.iadd, 1) := by decide +kernel
theorem dL_law_748 : decode cL_law 748 = .ok (.iaload, 1) := by decide +kernel
theorem dL_law_749 : decode cL_law 749 = .ok (.aload_n 0, 1) := by decide +kernel
theorem dL_law_750 : decode cL_law 750 = .ok (.iload_n 3, 1) := by decide +kernel
theorem dL_law_751 : decode cL_law 751 = .ok (.iconst 2, 1) := by decide +kernel
theorem dL_law_752 : decode cL_law 752 = .ok (.iadd, 1) := by decide +kernel
theorem dL_law_753 : decode cL_law 753 = .ok (.iaload, 1) := by decide +kernel
theorem dL_law_754 : decode cL_law 754 = .ok (.aload_n 0, 1) := by decide +kernel
theorem dL_law_755 : decode cL_law 755 = .ok (.iload_n 3, 1) := by decide +kernel
theorem dL_law_756 : decode cL_law 756 = .ok (.iconst 3, 1) := by decide +kernel
theorem dL_law_757 : decode cL_law 757 = .ok (.iadd, 1) := by decide +kernel
theorem dL_law_758 : decode cL_law 758 = .ok (.iaload, 1) := by decide +kernel
theorem dL_law_759 : decode cL_law 759 = .ok (.ifCond .eq 7, 3) := by decide +kernel
theorem dL_law_766 : decode cL_law 766 = .ok (.iconst 0, 1) := by decide +kernel
theorem dL_law_767 : decode cL_law 767 = .ok (.aload_n 0, 1) := by decide +kernel
theorem dL_law_768 : decode cL_law 768 = .ok (.iload_n 3, 1) := by decide +kernel
theorem dL_law_769 : decode cL_law 769 = .ok (.iconst 4, 1) := by decide +kernel
theorem dL_law_770 : decode cL_law 770 = .ok (.iadd, 1) := by decide +kernel
theorem dL_law_771 : decode cL_law 771 = .ok (.iaload, 1) := by decide +kernel
theorem dL_law_772 : decode cL_law 772 = .ok (.invokevirtual 70, 3) := by decide +kernel
theorem dL_law_775 : decode cL_law 775 = .ok (.aload_n 2, 1) := by decide +kernel
theorem dL_law_776 : decode cL_law 776 = .ok (.aload_n 0, 1) := by decide +kernel
theorem dL_law_777 : decode cL_law 777 = .ok (.iload_n 3, 1) := by decide +kernel
theorem dL_law_778 : decode cL_law 778 = .ok (.iconst 1, 1) := by decide +kernel
theorem dL_law_779 : decode cL_law 779 = .ok (.iadd, 1) := by decide +kernel
theorem dL_law_780 : decode cL_law 780 = .ok (.iaload, 1) := by decide +kernel
theorem dL_law_781 : decode cL_law 781 = .ok (.aload_n 0, 1) := by decide +kernel
theorem dL_law_782 : decode cL_law 782 = .ok (.iload_n 3, 1) := by decide +kernel
theorem dL_law_783 : decode cL_law 783 = .ok (.iconst 2, 1) := by decide +kernel
theorem dL_law_784 : decode cL_law 784 = .ok (.iadd, 1) := by decide +kernel
theorem dL_law_785 : decode cL_law 785 = .ok (.iaload, 1) := by decide +kernel
theorem dL_law_786 : decode cL_law 786 = .ok (.aload_n 0, 1) := by decide +kernel
theorem dL_law_787 : decode cL_law 787 = .ok (.iload_n 3, 1) := by decide +kernel
theorem dL_law_788 : decode cL_law 788 = .ok (.iconst 3, 1) := by decide +kernel
theorem dL_law_789 : decode cL_law 789 = .ok (.iadd, 1) := by decide +kernel
theorem dL_law_790 : decode cL_law 790 = .ok (.iaload, 1) := by decide +kernel
theorem dL_law_791 : decode cL_law 791 = .ok (.ifCond .eq 7, 3) := by decide +kernel
theorem dL_law_798 : decode cL_law 798 = .ok (.iconst 0, 1) := by decide +kernel
theorem dL_law_799 : decode cL_law 799 = .ok (.aload_n 0, 1) := by decide +kernel
theorem dL_law_800 : decode cL_law 800 = .ok (.iload_n 3, 1) := by decide +kernel
theorem dL_law_801 : decode cL_law 801 = .ok (.iconst 4, 1) := by decide +kernel
theorem dL_law_802 : decode cL_law 802 = .ok (.iadd, 1) := by decide +kernel
theorem dL_law_803 : decode cL_law 803 = .ok (.iaload, 1) := by decide +kernel
theorem dL_law_804 : decode cL_law 804 = .ok (.invokevirtual 74, 3) := by decide +kernel
theorem dL_law_807 : decode cL_law 807 = .ok (.if_icmp .eq 1148, 3) := by decide +kernel
theorem dL_law_762 : decode cL_law 762 = .ok (.iconst 1, 1) := by decide +kernel
theorem dL_law_763 : decode cL_law 763 = .ok (.goto 4, 3) := by decide +kernel
theorem dL_law_794 : decode cL_law 794 = .ok (.iconst 1, 1) := by decide +kernel
theorem dL_law_795 : decode cL_law 795 = .ok (.goto 4, 3) := by decide +kernel
theorem dL_law_812 : decode cL_law 812 = .ok (.aload_n 1, 1) := by decide +kernel
theorem dL_law_813 : decode cL_law 813 = .ok (.aload_n 0, 1) := by decide +kernel
theorem dL_law_814 : decode cL_law 814 = .ok (.iload_n 3, 1) := by decide +kernel
theorem dL_law_815 : decode cL_law 815 = .ok (.iconst 1, 1) := by decide +kernel
theorem dL_law_816 : decode cL_law 816 = .ok (.iadd, 1) := by decide +kernel
theorem dL_law_817 : decode cL_law 817 = .ok (.iaload, 1) := by decide +kernel
theorem dL_law_818 : decode cL_law 818 = .ok (.aload_n 0, 1) := by decide +kernel
theorem dL_law_819 : decode cL_law 819 = .ok (.iload_n 3, 1) := by decide +kernel
theorem dL_law_820 : decode cL_law 820 = .ok (.iconst 2, 1) := by decide +kernel
theorem dL_law_821 : decode cL_law 821 = .ok (.iadd, 1) := by decide +kernel
theorem dL_law_822 : decode cL_law 822 = .ok (.iaload, 1) := by decide +kernel
theorem dL_law_823 : decode cL_law 823 = .ok (.invokevirtual 75, 3) := by decide +kernel
theorem dL_law_826 : decode cL_law 826 = .ok (.aload_n 2, 1) := by decide +kernel
theorem dL_law_827 : decode cL_law 827 = .ok (.aload_n 0, 1) := by decide +kernel
theorem dL_law_828 : decode cL_law 828 = .ok (.iload_n 3, 1) := by decide +kernel
theorem dL_law_829 : decode cL_law 829 = .ok (.iconst 1, 1) := by decide +kernel
theorem dL_law_830 : decode cL_law 830 = .ok (.iadd, 1) := by decide +kernel
theorem dL_law_831 : decode cL_law 831 = .ok (.iaload, 1) := by decide +kernel
theorem dL_law_832 : decode cL_law 832 = .ok (.aload_n 0, 1) := by decide +kernel
theorem dL_law_833 : decode cL_law 833 = .ok (.iload_n 3, 1) := by decide +kernel
theorem dL_law_834 : decode cL_law 834 = .ok (.iconst 2, 1) := by decide +kernel
theorem dL_law_835 : decode cL_law 835 = .ok (.iadd, 1) := by decide +kernel
theorem dL_law_836 : decode cL_law 836 = .ok (.iaload, 1) := by decide +kernel
theorem dL_law_837 : decode cL_law 837 = .ok (.invokevirtual 78, 3) := by decide +kernel
theorem dL_law_840 : decode cL_law 840 = .ok (.if_icmp .eq 1115, 3) := by decide +kernel
theorem dL_law_845 : decode cL_law 845 = .ok (.aload_n 1, 1) := by decide +kernel
theorem dL_law_846 : decode cL_law 846 = .ok (.aload_n 0, 1) := by decide +kernel
theorem dL_law_847 : decode cL_law 847 = .ok (.iload_n 3, 1) := by decide +kernel
theorem dL_law_848 : decode cL_law 848 = .ok (.iconst 1, 1) := by decide +kernel
theorem dL_law_849 : decode cL_law 849 = .ok (.iadd, 1) := by decide +kernel
theorem dL_law_850 : decode cL_law 850 = .ok (.iaload, 1) := by decide +kernel
theorem dL_law_851 : decode cL_law 851 = .ok (.invokevirtual 79, 3) := by decide +kernel
theorem dL_law_854 : decode cL_law 854 = .ok (.aload_n 2, 1) := by decide +kernel
theorem dL_law_855 : decode cL_law 855 = .ok (.aload_n 0, 1) := by decide +kernel
theorem dL_law_856 : decode cL_law 856 = .ok (.iload_n 3, 1) := by decide +kernel
theorem dL_law_857 : decode cL_law 857 = .ok (.iconst 1, 1) := by decide +kernel
theorem dL_law_858 : decode cL_law 858 = .ok (.iadd, 1) := by decide +kernel
theorem dL_law_859 : decode cL_law 859 = .ok (.iaload, 1) := by decide +kernel
theorem dL_law_860 : decode cL_law 860 = .ok (.invokevirtual 82, 3) := by decide +kernel
theorem dL_law_863 : decode cL_law 863 = .ok (.if_icmp .eq 1092, 3) := by decide +kernel
theorem dL_law_868 : decode cL_law 868 = .ok (.aload_n 1, 1) := by decide +kernel
theorem dL_law_869 : decode cL_law 869 = .ok (.aload_n 0, 1) := by decide +kernel
theorem dL_law_870 : decode cL_law 870 = .ok (.iload_n 3, 1) := by decide +kernel
theorem dL_law_871 : decode cL_law 871 = .ok (.iconst 1, 1) := by decide +kernel
theorem dL_law_872 : decode cL_law 872 = .ok (.iadd, 1) := by decide +kernel
theorem dL_law_873 : decode cL_law 873 = .ok (.iaload, 1) := by decide +kernel
theorem dL_law_874 : decode cL_law 874 = .ok (.aload_n 0, 1) := by decide +kernel
theorem dL_law_875 : decode cL_law 875 = .ok (.iload_n 3, 1) := by decide +kernel
theorem dL_law_876 : decode cL_law 876 = .ok (.iconst 2, 1) := by decide +kernel
theorem dL_law_877 : decode cL_law 877 = .ok (.iadd, 1) := by decide +kernel
theorem dL_law_878 : decode cL_law 878 = .ok (.iaload, 1) := by decide +kernel
theorem dL_law_879 : decode cL_law 879 = .ok (.invokevirtual 83, 3) := by decide +kernel
theorem dL_law_882 : decode cL_law 882 = .ok (.aload_n 2, 1) := by decide +kernel
theorem dL_law_883 : decode cL_law 883 = .ok (.aload_n 0, 1) := by decide +kernel
theorem dL_law_884 : decode cL_law 884 = .ok (.iload_n 3, 1) := by decide +kernel
theorem dL_law_885 : decode cL_law 885 = .ok (.iconst 1, 1) := by decide +kernel
theorem dL_law_886 : decode cL_law 886 = .ok (.iadd, 1) := by decide +kernel
theorem dL_law_887 : decode cL_law 887 = .ok (.iaload, 1) := by decide +kernel
theorem dL_law_888 : decode cL_law 888 = .ok (.aload_n 0, 1) := by decide +kernel
theorem dL_law_889 : decode cL_law 889 = .ok (.iload_n 3, 1) := by decide +kernel
theorem dL_law_890 : decode cL_law 890 = .ok (.iconst 2, 1) := by decide +kernel
theorem dL_law_891 : decode cL_law 891 = .ok (.iadd, 1) := by decide +kernel
theorem dL_law_892 : decode cL_law 892 = .ok (.iaload, 1) := by decide +kernel
theorem dL_law_893 : decode cL_law 893 = .ok (.invokevirtual 86, 3) := by decide +kernel
theorem dL_law_896 : decode cL_law 896 = .ok (.if_icmp .eq 1059, 3) := by decide +kernel
theorem dL_law_901 : decode cL_law 901 = .ok (.aload_n 1, 1) := by decide +kernel
theorem dL_law_902 : decode cL_law 902 = .ok (.aload_n 0, 1) := by decide +kernel
theorem dL_law_903 : decode cL_law 903 = .ok (.iload_n 3, 1) := by decide +kernel
theorem dL_law_904 : decode cL_law 904 = .ok (.iconst 1, 1) := by decide +kernel
theorem dL_law_905 : decode cL_law 905 = .ok (.iadd, 1) := by decide +kernel
theorem dL_law_906 : decode cL_law 906 = .ok (.iaload, 1) := by decide +kernel
theorem dL_law_907 : decode cL_law 907 = .ok (.aload_n 0, 1) := by decide +kernel
theorem dL_law_908 : decode cL_law 908 = .ok (.iload_n 3, 1) := by decide +kernel
theorem dL_law_909 : decode cL_law 909 = .ok (.iconst 2, 1) := by decide +kernel
theorem dL_law_910 : decode cL_law 910 = .ok (.iadd, 1) := by decide +kernel
theorem dL_law_911 : decode cL_law 911 = .ok (.iaload, 1) := by decide +kernel
theorem dL_law_912 : decode cL_law 912 = .ok (.aload_n 0, 1) := by decide +kernel
theorem dL_law_913 : decode cL_law 913 = .ok (.iload_n 3, 1) := by decide +kernel
theorem dL_law_914 : decode cL_law 914 = .ok (.iconst 3, 1) := by decide +kernel
theorem dL_law_915 : decode cL_law 915 = .ok (.iadd, 1) := by decide +kernel
theorem dL_law_916 : decode cL_law 916 = .ok (.iaload, 1) := by decide +kernel
theorem dL_law_917 : decode cL_law 917 = .ok (.invokevirtual 87, 3) := by decide +kernel
theorem dL_law_920 : decode cL_law 920 = .ok (.aload_n 2, 1) := by decide +kernel
theorem dL_law_921 : decode cL_law 921 = .ok (.aload_n 0, 1) := by decide +kernel
theorem dL_law_922 : decode cL_law 922 = .ok (.iload_n 3, 1) := by decide +kernel
theorem dL_law_923 : decode cL_law 923 = .ok (.iconst 1, 1) := by decide +kernel
theorem dL_law_924 : decode cL_law 924 = .ok (.iadd, 1) := by decide +kernel
theorem dL_law_925 : decode cL_law 925 = .ok (.iaload, 1) := by decide +kernel
theorem dL_law_926 : decode cL_law 926 = .ok (.aload_n 0, 1) := by decide +kernel
theorem dL_law_927 : decode cL_law 927 = .ok (.iload_n 3, 1) := by decide +kernel
theorem dL_law_928 : decode cL_law 928 = .ok (.iconst 2, 1) := by decide +kernel
theorem dL_law_929 : decode cL_law 929 = .ok (.iadd, 1) := by decide +kernel
theorem dL_law_930 : decode cL_law 930 = .ok (.iaload, 1) := by decide +kernel
theorem dL_law_931 : decode cL_law 931 = .ok (.aload_n 0, 1) := by decide +kernel
theorem dL_law_932 : decode cL_law 932 = .ok (.iload_n 3, 1) := by decide +kernel
theorem dL_law_933 : decode cL_law 933 = .ok (.iconst 3, 1) := by decide +kernel
theorem dL_law_934 : decode cL_law 934 = .ok (.iadd, 1) := by decide +kernel
theorem dL_law_935 : decode cL_law 935 = .ok (.iaload, 1) := by decide +kernel
theorem dL_law_936 : decode cL_law 936 = .ok (.invokevirtual 90, 3) := by decide +kernel
theorem dL_law_939 : decode cL_law 939 = .ok (.if_icmp .eq 1016, 3) := by decide +kernel
theorem ok_X11_row : okM yX11_row cX11_row 3 (some .int) 2 := ⟨q_516, q_89, by decide +kernel, by decide +kernel, by decide +kernel⟩
theorem okv_X11_row : okV yX11_row := ⟨q_514, q_515⟩
theorem ok_X12_row : okM yX12_row cX12_row 4 (some .int) 2 := ⟨q_1701, q_103, by decide +kernel, by decide +kernel, by decide +kernel⟩
theorem okv_X12_row : okV yX12_row := ⟨q_1699, q_1700⟩
theorem ok_X11_lay : okM yX11_lay cX11_lay 4 (some .int) 3 := ⟨q_538, q_89, by decide +kernel, by decide +kernel, by decide +kernel⟩
theorem okv_X11_lay : okV yX11_lay := ⟨q_536, q_537⟩
theorem ok_X12_lay : okM yX12_lay cX12_lay 5 (some .int) 3 := ⟨q_1715, q_103, by decide +kernel, by decide +kernel, by decide +kernel⟩
theorem okv_X12_lay : okV yX12_lay := ⟨q_1713, q_1714⟩
theorem ok_X11_tear : okM yX11_tear cX11_tear 2 (some .int) 1 := ⟨q_558, q_89, by decide +kernel, by decide +kernel, by decide +kernel⟩
theorem okv_X11_tear : okV yX11_tear := ⟨q_556, q_557⟩
theorem ok_X12_tear : okM yX12_tear cX12_tear 3 (some .int) 1 := ⟨q_1723, q_103, by decide +kernel, by decide +kernel, by decide +kernel⟩
theorem okv_X12_tear : okV yX12_tear := ⟨q_1721, q_1722⟩
theorem ok_X11_copy : okM yX11_copy cX11_copy 6 (some .int) 5 := ⟨q_566, q_89, by decide +kernel, by decide +kernel, by decide +kernel⟩
theorem okv_X11_copy : okV yX11_copy := ⟨q_564, q_565⟩
theorem ok_X12_copy : okM yX12_copy cX12_copy 7 (some .int) 5 := ⟨q_1727, q_103, by decide +kernel, by decide +kernel, by decide +kernel⟩
theorem okv_X12_copy : okV yX12_copy := ⟨q_1725, q_1726⟩
theorem ok_X11_text : okM yX11_text cX11_text 3 (some .int) 2 := ⟨q_581, q_89, by decide +kernel, by decide +kernel, by decide +kernel⟩
theorem okv_X11_text : okV yX11_text := ⟨q_579, q_580⟩
theorem ok_X12_text : okM yX12_text cX12_text 4 (some .int) 2 := ⟨q_1731, q_103, by decide +kernel, by decide +kernel, by decide +kernel⟩
theorem okv_X12_text : okV yX12_text := ⟨q_1729, q_1730⟩
theorem ok_X11_put : okM yX11_put cX11_put 4 (some .int) 3 := ⟨q_585, q_89, by decide +kernel, by decide +kernel, by decide +kernel⟩
theorem okv_X11_put : okV yX11_put := ⟨q_583, q_584⟩
theorem ok_X12_put : okM yX12_put cX12_put 6 (some .int) 3 := ⟨q_1738, q_103, by decide +kernel, by decide +kernel, by decide +kernel⟩
theorem okv_X12_put : okV yX12_put := ⟨q_1736, q_1737⟩
theorem ok_X11_fault : okM yX11_fault cX11_fault 2 (some .int) 1 := ⟨q_589, q_89, by decide +kernel, by decide +kernel, by decide +kernel⟩
theorem okv_X11_fault : okV yX11_fault := ⟨q_587, q_588⟩
theorem ok_X12_fault : okM yX12_fault cX12_fault 3 (some .int) 1 := ⟨q_1750, q_103, by decide +kernel, by decide +kernel, by decide +kernel⟩
theorem okv_X12_fault : okV yX12_fault := ⟨q_1748, q_1749⟩
theorem ok_X11_later : okM yX11_later cX11_later 2 (some .int) 1 := ⟨q_616, q_89, by decide +kernel, by decide +kernel, by decide +kernel⟩
theorem okv_X11_later : okV yX11_later := ⟨q_614, q_615⟩
theorem ok_X12_later : okM yX12_later cX12_later 2 (some .int) 1 := ⟨q_1746, q_103, by decide +kernel, by decide +kernel, by decide +kernel⟩
theorem okv_X12_later : okV yX12_later := ⟨q_1744, q_1745⟩
theorem ok_X11_cell : okM yX11_cell cX11_cell 4 (some .int) 3 := ⟨q_620, q_89, by decide +kernel, by decide +kernel, by decide +kernel⟩
theorem okv_X11_cell : okV yX11_cell := ⟨q_618, q_619⟩
theorem ok_X12_cell : okM yX12_cell cX12_cell 4 (some .int) 3 := ⟨q_1787, q_103, by decide +kernel, by decide +kernel, by decide +kernel⟩
theorem okv_X12_cell : okV yX12_cell := ⟨q_1785, q_1786⟩
theorem ok_X11_building : okM yX11_building cX11_building 5 (some .int) 4 := ⟨q_635, q_89, by decide +kernel, by decide +kernel, by decide +kernel⟩
theorem okv_X11_building : okV yX11_building := ⟨q_633, q_634⟩
theorem ok_X12_building : okM yX12_building cX12_building 5 (some .int) 4 := ⟨q_1798, q_103, by decide +kernel, by decide +kernel, by decide +kernel⟩
theorem okv_X12_building : okV yX12_building := ⟨q_1796, q_1797⟩
theorem ok_X11_worth : okM yX11_worth cX11_worth 4 (some .int) 2 := ⟨q_666, q_89, by decide +kernel, by decide +kernel, by decide +kernel⟩
theorem okv_X11_worth : okV yX11_worth := ⟨q_664, q_665⟩
theorem ok_X12_worth : okM yX12_worth cX12_worth 4 (some .int) 2 := ⟨q_1810, q_103, by decide +kernel, by decide +kernel, by decide +kernel⟩
theorem okv_X12_worth : okV yX12_worth := ⟨q_1808, q_1809⟩
theorem ok_X11_value : okM yX11_value cX11_value 3 (some .int) 2 := ⟨q_683, q_89, by decide +kernel, by decide +kernel, by decide +kernel⟩
theorem okv_X11_value : okV yX11_value := ⟨q_681, q_682⟩
theorem ok_X12_value : okM yX12_value cX12_value 3 (some .int) 2 := ⟨q_1822, q_103, by decide +kernel, by decide +kernel, by decide +kernel⟩
theorem okv_X12_value : okV yX12_value := ⟨q_1820, q_1821⟩
theorem ok_X11_house : okM yX11_house cX11_house 3 (some .int) 2 := ⟨q_694, q_89, by decide +kernel, by decide +kernel, by decide +kernel⟩
theorem okv_X11_house : okV yX11_house := ⟨q_692, q_693⟩
theorem ok_X12_house : okM yX12_house cX12_house 3 (some .int) 2 := ⟨q_1826, q_103, by decide +kernel, by decide +kernel, by decide +kernel⟩
theorem okv_X12_house : okV yX12_house := ⟨q_1824, q_1825⟩
theorem ok_X11_person : okM yX11_person cX11_person 6 (some .int) 4 := ⟨q_702, q_89, by decide +kernel, by decide +kernel, by decide +kernel⟩
theorem okv_X11_person : okV yX11_person := ⟨q_700, q_701⟩
theorem ok_X12_person : okM yX12_person cX12_person 5 (some .int) 4 := ⟨q_1842, q_103, by decide +kernel, by decide +kernel, by decide +kernel⟩
theorem okv_X12_person : okV yX12_person := ⟨q_1840, q_1841⟩
theorem ok_X11_who : okM yX11_who cX11_who 3 (some .int) 2 := ⟨q_734, q_89, by decide +kernel, by decide +kernel, by decide +kernel⟩
theorem okv_X11_who : okV yX11_who := ⟨q_732, q_733⟩
theorem ok_X12_who : okM yX12_who cX12_who 3 (some .int) 2 := ⟨q_1850, q_103, by decide +kernel, by decide +kernel, by decide +kernel⟩
theorem okv_X12_who : okV yX12_who := ⟨q_1848, q_1849⟩
theorem ok_X11_mean : okM yX11_mean cX11_mean 5 (some .int) 1 := ⟨q_746, q_89, by decide +kernel, by decide +kernel, by decide +kernel⟩
theorem okv_X11_mean : okV yX11_mean := ⟨q_744, q_745⟩
theorem ok_X12_mean : okM yX12_mean cX12_mean 6 (some .int) 1 := ⟨q_1862, q_103, by decide +kernel, by decide +kernel, by decide +kernel⟩
theorem okv_X12_mean : okV yX12_mean := ⟨q_1860, q_1861⟩
theorem ok_X11_rule : okM yX11_rule cX11_rule 3 (some .int) 2 := ⟨q_751, q_89, by decide +kernel, by decide +kernel, by decide +kernel⟩
theorem okv_X11_rule : okV yX11_rule := ⟨q_749, q_750⟩
theorem ok_X12_rule : okM yX12_rule cX12_rule 4 (some .int) 2 := ⟨q_1761, q_103, by decide +kernel, by decide +kernel, by decide +kernel⟩
theorem okv_X12_rule : okV yX12_rule := ⟨q_1759, q_1760⟩
theorem ok_X11_force : okM yX11_force cX11_force 4 (some .int) 3 := ⟨q_767, q_89, by decide +kernel, by decide +kernel, by decide +kernel⟩
theorem okv_X11_force : okV yX11_force := ⟨q_765, q_766⟩
theorem ok_X12_force : okM yX12_force cX12_force 4 (some .int) 3 := ⟨q_1768, q_103, by decide +kernel, by decide +kernel, by decide +kernel⟩
theorem okv_X12_force : okV yX12_force := ⟨q_1766, q_1767⟩
set_option maxRecDepth 100000 in
theorem eq_row (g : GG) (x_x0 : Nat) (r : Int32) (n : Int32) (x_xr : Nat) (x_xt : Nat) (x_xg : Nat) (x_xb : Nat) (x_xp : Nat) (x_xu : Nat) (x_xm : Nat) (x_xd : Nat) (x_xw : Nat) (x_xh : Nat) (x_xa : Nat) (x_xs : Nat) (x_xf : Nat) (x_xrs : Nat) (x_xrp : Nat) (y_m0 : Nat) (y_m0a1 : Nat) (y_m0a5 : Nat) (y_m0a6 : Nat) (y_m0a7 : Nat) (y_m0a8 : Nat) (y_m0a9 : Nat) (y_m0a11 : Nat) (y_m0a12 : Nat) (y_m0a13 : Nat) (y_m0a14 : Nat) (y_m0a15 : Nat) (y_m0a16 : Nat) (y_m0a18 : Nat) (y_m0a19 : Nat) (y_m0a20 : Nat) (y_m0a21 : Nat) (y_m0a22 : Nat) (y_m0a24 : Nat) (y_m0a25 : Nat) (y_m0a26 : Nat) (y_m0a28 : Nat) (y_m0a29 : Nat) (y_m0a30 : Nat) (y_m0a31 : Nat) (y_m0a33 : Nat) (y_m0a34 : Nat) (y_m0a35 : Nat) (y_m0a36 : Nat) (y_m0a37 : Nat) (y_m0a38 : Nat) (y_m0a39 : Nat) (y_m0a40 : Nat) (y_m0a41 : Nat) (y_m0a42 : Nat) (y_m0a43 : Nat) (y_m0a44 : Nat) (y_m0a45 : Nat) (y_m0a46 : Nat) (y_m0a47 : Nat) (y_m0a49 : Nat) (y_m0a50 : Nat) (y_m0a51 : Nat) (y_m0a53 : Nat) (y_m0a54 : Nat) (y_m0a55 : Nat) (y_m0a56 : Nat) (y_m0a57 : Nat) (y_m0a58 : Nat) (y_m0a59 : Nat) (y_m0a60 : Nat) (y_m0a61 : Nat) (y_m0a62 : Nat) (y_m0a63 : Nat) (y_m0a67 : Nat) (y_m0a68 : Nat) (y_m0a69 : Nat) (y_m0a70 : Nat) (y_m0a71 : Nat) (y_m0a72 : Nat) (y_m0a73 : Nat) (y_m0a74 : Nat) (y_m0a75 : Nat) : sp_X11_row g x_x0 r n x_xr x_xt x_xg x_xb x_xp x_xu x_xm x_xd x_xw x_xh x_xa x_xs x_xf x_xrs x_xrp = sp_X12_row g y_m0 r n y_m0a1 y_m0a5 y_m0a6 y_m0a7 y_m0a8 y_m0a9 y_m0a11 y_m0a12 y_m0a13 y_m0a14 y_m0a15 y_m0a16 y_m0a18 y_m0a19 y_m0a20 y_m0a21 y_m0a22 y_m0a24 y_m0a25 y_m0a26 y_m0a28 y_m0a29 y_m0a30 y_m0a31 y_m0a33 y_m0a34 y_m0a35 y_m0a36 y_m0a37 y_m0a38 y_m0a39 y_m0a40 y_m0a41 y_m0a42 y_m0a43 y_m0a44 y_m0a45 y_m0a46 y_m0a47 y_m0a49 y_m0a50 y_m0a51 y_m0a53 y_m0a54 y_m0a55 y_m0a56 y_m0a57 y_m0a58 y_m0a59 y_m0a60 y_m0a61 y_m0a62 y_m0a63 y_m0a67 y_m0a68 y_m0a69 y_m0a70 y_m0a71 y_m0a72 y_m0a73 y_m0a74 y_m0a75 := by
  unfold sp_X11_row sp_X12_row
  repeat' split
  all_goals first | rfl | (exfalso; simp only [i32lt, i32le, i32eq, Int32.reduceToInt] at *; omega)
set_option maxRecDepth 100000 in
theorem eq_lay (g : GG) (x_x0 : Nat) (r : Int32) (i : Int32) (v : Int32) (x_xr : Nat) (x_xt : Nat) (x_xg : Nat) (x_xb : Nat) (x_xp : Nat) (x_xu : Nat) (x_xm : Nat) (x_xd : Nat) (x_xw : Nat) (x_xh : Nat) (x_xa : Nat) (x_xs : Nat) (x_xf : Nat) (x_xrs : Nat) (x_xrp : Nat) (y_m0 : Nat) (y_m0a1 : Nat) (y_m0a5 : Nat) (y_m0a6 : Nat) (y_m0a7 : Nat) (y_m0a8 : Nat) (y_m0a9 : Nat) (y_m0a11 : Nat) (y_m0a12 : Nat) (y_m0a13 : Nat) (y_m0a14 : Nat) (y_m0a15 : Nat) (y_m0a16 : Nat) (y_m0a18 : Nat) (y_m0a19 : Nat) (y_m0a20 : Nat) (y_m0a21 : Nat) (y_m0a22 : Nat) (y_m0a24 : Nat) (y_m0a25 : Nat) (y_m0a26 : Nat) (y_m0a28 : Nat) (y_m0a29 : Nat) (y_m0a30 : Nat) (y_m0a31 : Nat) (y_m0a33 : Nat) (y_m0a34 : Nat) (y_m0a35 : Nat) (y_m0a36 : Nat) (y_m0a37 : Nat) (y_m0a38 : Nat) (y_m0a39 : Nat) (y_m0a40 : Nat) (y_m0a41 : Nat) (y_m0a42 : Nat) (y_m0a43 : Nat) (y_m0a44 : Nat) (y_m0a45 : Nat) (y_m0a46 : Nat) (y_m0a47 : Nat) (y_m0a49 : Nat) (y_m0a50 : Nat) (y_m0a51 : Nat) (y_m0a53 : Nat) (y_m0a54 : Nat) (y_m0a55 : Nat) (y_m0a56 : Nat) (y_m0a57 : Nat) (y_m0a58 : Nat) (y_m0a59 : Nat) (y_m0a60 : Nat) (y_m0a61 : Nat) (y_m0a62 : Nat) (y_m0a63 : Nat) (y_m0a67 : Nat) (y_m0a68 : Nat) (y_m0a69 : Nat) (y_m0a70 : Nat) (y_m0a71 : Nat) (y_m0a72 : Nat) (y_m0a73 : Nat) (y_m0a74 : Nat) (y_m0a75 : Nat) : sp_X11_lay g x_x0 r i v x_xr x_xt x_xg x_xb x_xp x_xu x_xm x_xd x_xw x_xh x_xa x_xs x_xf x_xrs x_xrp = sp_X12_lay g y_m0 r i v y_m0a1 y_m0a5 y_m0a6 y_m0a7 y_m0a8 y_m0a9 y_m0a11 y_m0a12 y_m0a13 y_m0a14 y_m0a15 y_m0a16 y_m0a18 y_m0a19 y_m0a20 y_m0a21 y_m0a22 y_m0a24 y_m0a25 y_m0a26 y_m0a28 y_m0a29 y_m0a30 y_m0a31 y_m0a33 y_m0a34 y_m0a35 y_m0a36 y_m0a37 y_m0a38 y_m0a39 y_m0a40 y_m0a41 y_m0a42 y_m0a43 y_m0a44 y_m0a45 y_m0a46 y_m0a47 y_m0a49 y_m0a50 y_m0a51 y_m0a53 y_m0a54 y_m0a55 y_m0a56 y_m0a57 y_m0a58 y_m0a59 y_m0a60 y_m0a61 y_m0a62 y_m0a63 y_m0a67 y_m0a68 y_m0a69 y_m0a70 y_m0a71 y_m0a72 y_m0a73 y_m0a74 y_m0a75 := by
  unfold sp_X11_lay sp_X12_lay
  repeat' split
  all_goals first | rfl | (exfalso; simp only [i32lt, i32le, i32eq, Int32.reduceToInt] at *; omega)
set_option maxRecDepth 100000 in
theorem eq_tear (g : GG) (x_x0 : Nat) (r : Int32) (x_xr : Nat) (x_xt : Nat) (x_xg : Nat) (x_xb : Nat) (x_xp : Nat) (x_xu : Nat) (x_xm : Nat) (x_xd : Nat) (x_xw : Nat) (x_xh : Nat) (x_xa : Nat) (x_xs : Nat) (x_xf : Nat) (x_xrs : Nat) (x_xrp : Nat) (y_m0 : Nat) (y_m0a1 : Nat) (y_m0a5 : Nat) (y_m0a6 : Nat) (y_m0a7 : Nat) (y_m0a8 : Nat) (y_m0a9 : Nat) (y_m0a11 : Nat) (y_m0a12 : Nat) (y_m0a13 : Nat) (y_m0a14 : Nat) (y_m0a15 : Nat) (y_m0a16 : Nat) (y_m0a18 : Nat) (y_m0a19 : Nat) (y_m0a20 : Nat) (y_m0a21 : Nat) (y_m0a22 : Nat) (y_m0a24 : Nat) (y_m0a25 : Nat) (y_m0a26 : Nat) (y_m0a28 : Nat) (y_m0a29 : Nat) (y_m0a30 : Nat) (y_m0a31 : Nat) (y_m0a33 : Nat) (y_m0a34 : Nat) (y_m0a35 : Nat) (y_m0a36 : Nat) (y_m0a37 : Nat) (y_m0a38 : Nat) (y_m0a39 : Nat) (y_m0a40 : Nat) (y_m0a41 : Nat) (y_m0a42 : Nat) (y_m0a43 : Nat) (y_m0a44 : Nat) (y_m0a45 : Nat) (y_m0a46 : Nat) (y_m0a47 : Nat) (y_m0a49 : Nat) (y_m0a50 : Nat) (y_m0a51 : Nat) (y_m0a53 : Nat) (y_m0a54 : Nat) (y_m0a55 : Nat) (y_m0a56 : Nat) (y_m0a57 : Nat) (y_m0a58 : Nat) (y_m0a59 : Nat) (y_m0a60 : Nat) (y_m0a61 : Nat) (y_m0a62 : Nat) (y_m0a63 : Nat) (y_m0a67 : Nat) (y_m0a68 : Nat) (y_m0a69 : Nat) (y_m0a70 : Nat) (y_m0a71 : Nat) (y_m0a72 : Nat) (y_m0a73 : Nat) (y_m0a74 : Nat) (y_m0a75 : Nat) : sp_X11_tear g x_x0 r x_xr x_xt x_xg x_xb x_xp x_xu x_xm x_xd x_xw x_xh x_xa x_xs x_xf x_xrs x_xrp = sp_X12_tear g y_m0 r y_m0a1 y_m0a5 y_m0a6 y_m0a7 y_m0a8 y_m0a9 y_m0a11 y_m0a12 y_m0a13 y_m0a14 y_m0a15 y_m0a16 y_m0a18 y_m0a19 y_m0a20 y_m0a21 y_m0a22 y_m0a24 y_m0a25 y_m0a26 y_m0a28 y_m0a29 y_m0a30 y_m0a31 y_m0a33 y_m0a34 y_m0a35 y_m0a36 y_m0a37 y_m0a38 y_m0a39 y_m0a40 y_m0a41 y_m0a42 y_m0a43 y_m0a44 y_m0a45 y_m0a46 y_m0a47 y_m0a49 y_m0a50 y_m0a51 y_m0a53 y_m0a54 y_m0a55 y_m0a56 y_m0a57 y_m0a58 y_m0a59 y_m0a60 y_m0a61 y_m0a62 y_m0a63 y_m0a67 y_m0a68 y_m0a69 y_m0a70 y_m0a71 y_m0a72 y_m0a73 y_m0a74 y_m0a75 := by
  unfold sp_X11_tear sp_X12_tear
  repeat' split
  all_goals first | rfl | (exfalso; simp only [i32lt, i32le, i32eq, Int32.reduceToInt] at *; omega)
set_option maxRecDepth 100000 in
theorem eq_copy (g : GG) (x_x0 : Nat) (r : Int32) (i : Int32) (t : Int32) (j : Int32) (n : Int32) (x_xr : Nat) (x_xt : Nat) (x_xg : Nat) (x_xb : Nat) (x_xp : Nat) (x_xu : Nat) (x_xm : Nat) (x_xd : Nat) (x_xw : Nat) (x_xh : Nat) (x_xa : Nat) (x_xs : Nat) (x_xf : Nat) (x_xrs : Nat) (x_xrp : Nat) (y_m0 : Nat) (y_m0a1 : Nat) (y_m0a5 : Nat) (y_m0a6 : Nat) (y_m0a7 : Nat) (y_m0a8 : Nat) (y_m0a9 : Nat) (y_m0a11 : Nat) (y_m0a12 : Nat) (y_m0a13 : Nat) (y_m0a14 : Nat) (y_m0a15 : Nat) (y_m0a16 : Nat) (y_m0a18 : Nat) (y_m0a19 : Nat) (y_m0a20 : Nat) (y_m0a21 : Nat) (y_m0a22 : Nat) (y_m0a24 : Nat) (y_m0a25 : Nat) (y_m0a26 : Nat) (y_m0a28 : Nat) (y_m0a29 : Nat) (y_m0a30 : Nat) (y_m0a31 : Nat) (y_m0a33 : Nat) (y_m0a34 : Nat) (y_m0a35 : Nat) (y_m0a36 : Nat) (y_m0a37 : Nat) (y_m0a38 : Nat) (y_m0a39 : Nat) (y_m0a40 : Nat) (y_m0a41 : Nat) (y_m0a42 : Nat) (y_m0a43 : Nat) (y_m0a44 : Nat) (y_m0a45 : Nat) (y_m0a46 : Nat) (y_m0a47 : Nat) (y_m0a49 : Nat) (y_m0a50 : Nat) (y_m0a51 : Nat) (y_m0a53 : Nat) (y_m0a54 : Nat) (y_m0a55 : Nat) (y_m0a56 : Nat) (y_m0a57 : Nat) (y_m0a58 : Nat) (y_m0a59 : Nat) (y_m0a60 : Nat) (y_m0a61 : Nat) (y_m0a62 : Nat) (y_m0a63 : Nat) (y_m0a67 : Nat) (y_m0a68 : Nat) (y_m0a69 : Nat) (y_m0a70 : Nat) (y_m0a71 : Nat) (y_m0a72 : Nat) (y_m0a73 : Nat) (y_m0a74 : Nat) (y_m0a75 : Nat) : sp_X11_copy g x_x0 r i t j n x_xr x_xt x_xg x_xb x_xp x_xu x_xm x_xd x_xw x_xh x_xa x_xs x_xf x_xrs x_xrp = sp_X12_copy g y_m0 r i t j n y_m0a1 y_m0a5 y_m0a6 y_m0a7 y_m0a8 y_m0a9 y_m0a11 y_m0a12 y_m0a13 y_m0a14 y_m0a15 y_m0a16 y_m0a18 y_m0a19 y_m0a20 y_m0a21 y_m0a22 y_m0a24 y_m0a25 y_m0a26 y_m0a28 y_m0a29 y_m0a30 y_m0a31 y_m0a33 y_m0a34 y_m0a35 y_m0a36 y_m0a37 y_m0a38 y_m0a39 y_m0a40 y_m0a41 y_m0a42 y_m0a43 y_m0a44 y_m0a45 y_m0a46 y_m0a47 y_m0a49 y_m0a50 y_m0a51 y_m0a53 y_m0a54 y_m0a55 y_m0a56 y_m0a57 y_m0a58 y_m0a59 y_m0a60 y_m0a61 y_m0a62 y_m0a63 y_m0a67 y_m0a68 y_m0a69 y_m0a70 y_m0a71 y_m0a72 y_m0a73 y_m0a74 y_m0a75 := by
  unfold sp_X11_copy sp_X12_copy
  repeat' split
  all_goals first | rfl | (exfalso; simp only [i32lt, i32le, i32eq, Int32.reduceToInt] at *; omega)
set_option maxRecDepth 100000 in
theorem eq_text (g : GG) (x_x0 : Nat) (r : Int32) (n : Int32) (x_xr : Nat) (x_xt : Nat) (x_xg : Nat) (x_xb : Nat) (x_xp : Nat) (x_xu : Nat) (x_xm : Nat) (x_xd : Nat) (x_xw : Nat) (x_xh : Nat) (x_xa : Nat) (x_xs : Nat) (x_xf : Nat) (x_xts : Nat) (x_xtp : Nat) (y_m0 : Nat) (y_m0a1 : Nat) (y_m0a5 : Nat) (y_m0a6 : Nat) (y_m0a7 : Nat) (y_m0a8 : Nat) (y_m0a9 : Nat) (y_m0a11 : Nat) (y_m0a12 : Nat) (y_m0a13 : Nat) (y_m0a14 : Nat) (y_m0a15 : Nat) (y_m0a16 : Nat) (y_m0a18 : Nat) (y_m0a19 : Nat) (y_m0a20 : Nat) (y_m0a21 : Nat) (y_m0a22 : Nat) (y_m0a24 : Nat) (y_m0a25 : Nat) (y_m0a26 : Nat) (y_m0a28 : Nat) (y_m0a29 : Nat) (y_m0a30 : Nat) (y_m0a31 : Nat) (y_m0a33 : Nat) (y_m0a34 : Nat) (y_m0a35 : Nat) (y_m0a36 : Nat) (y_m0a37 : Nat) (y_m0a38 : Nat) (y_m0a39 : Nat) (y_m0a40 : Nat) (y_m0a41 : Nat) (y_m0a42 : Nat) (y_m0a43 : Nat) (y_m0a44 : Nat) (y_m0a45 : Nat) (y_m0a46 : Nat) (y_m0a47 : Nat) (y_m0a49 : Nat) (y_m0a50 : Nat) (y_m0a51 : Nat) (y_m0a53 : Nat) (y_m0a54 : Nat) (y_m0a55 : Nat) (y_m0a56 : Nat) (y_m0a57 : Nat) (y_m0a58 : Nat) (y_m0a59 : Nat) (y_m0a60 : Nat) (y_m0a61 : Nat) (y_m0a62 : Nat) (y_m0a63 : Nat) (y_m0a67 : Nat) (y_m0a68 : Nat) (y_m0a69 : Nat) (y_m0a70 : Nat) (y_m0a71 : Nat) (y_m0a72 : Nat) (y_m0a73 : Nat) (y_m0a74 : Nat) (y_m0a75 : Nat) : sp_X11_text g x_x0 r n x_xr x_xt x_xg x_xb x_xp x_xu x_xm x_xd x_xw x_xh x_xa x_xs x_xf x_xts x_xtp = sp_X12_text g y_m0 r n y_m0a1 y_m0a5 y_m0a6 y_m0a7 y_m0a8 y_m0a9 y_m0a11 y_m0a12 y_m0a13 y_m0a14 y_m0a15 y_m0a16 y_m0a18 y_m0a19 y_m0a20 y_m0a21 y_m0a22 y_m0a24 y_m0a25 y_m0a26 y_m0a28 y_m0a29 y_m0a30 y_m0a31 y_m0a33 y_m0a34 y_m0a35 y_m0a36 y_m0a37 y_m0a38 y_m0a39 y_m0a40 y_m0a41 y_m0a42 y_m0a43 y_m0a44 y_m0a45 y_m0a46 y_m0a47 y_m0a49 y_m0a50 y_m0a51 y_m0a53 y_m0a54 y_m0a55 y_m0a56 y_m0a57 y_m0a58 y_m0a59 y_m0a60 y_m0a61 y_m0a62 y_m0a63 y_m0a67 y_m0a68 y_m0a69 y_m0a70 y_m0a71 y_m0a72 y_m0a73 y_m0a74 y_m0a75 := by
  unfold sp_X11_text sp_X12_text
  repeat' split
  all_goals first | rfl | (exfalso; simp only [i32lt, i32le, i32eq, Int32.reduceToInt] at *; omega)
set_option maxRecDepth 100000 in
theorem eq_put (g : GG) (x_x0 : Nat) (r : Int32) (i : Int32) (v : Int32) (x_xr : Nat) (x_xt : Nat) (x_xg : Nat) (x_xb : Nat) (x_xp : Nat) (x_xu : Nat) (x_xm : Nat) (x_xd : Nat) (x_xw : Nat) (x_xh : Nat) (x_xa : Nat) (x_xs : Nat) (x_xf : Nat) (x_xts : Nat) (x_xtp : Nat) (y_m0 : Nat) (y_m0a1 : Nat) (y_m0a5 : Nat) (y_m0a6 : Nat) (y_m0a7 : Nat) (y_m0a8 : Nat) (y_m0a9 : Nat) (y_m0a11 : Nat) (y_m0a12 : Nat) (y_m0a13 : Nat) (y_m0a14 : Nat) (y_m0a15 : Nat) (y_m0a16 : Nat) (y_m0a18 : Nat) (y_m0a19 : Nat) (y_m0a20 : Nat) (y_m0a21 : Nat) (y_m0a22 : Nat) (y_m0a24 : Nat) (y_m0a25 : Nat) (y_m0a26 : Nat) (y_m0a28 : Nat) (y_m0a29 : Nat) (y_m0a30 : Nat) (y_m0a31 : Nat) (y_m0a33 : Nat) (y_m0a34 : Nat) (y_m0a35 : Nat) (y_m0a36 : Nat) (y_m0a37 : Nat) (y_m0a38 : Nat) (y_m0a39 : Nat) (y_m0a40 : Nat) (y_m0a41 : Nat) (y_m0a42 : Nat) (y_m0a43 : Nat) (y_m0a44 : Nat) (y_m0a45 : Nat) (y_m0a46 : Nat) (y_m0a47 : Nat) (y_m0a49 : Nat) (y_m0a50 : Nat) (y_m0a51 : Nat) (y_m0a53 : Nat) (y_m0a54 : Nat) (y_m0a55 : Nat) (y_m0a56 : Nat) (y_m0a57 : Nat) (y_m0a58 : Nat) (y_m0a59 : Nat) (y_m0a60 : Nat) (y_m0a61 : Nat) (y_m0a62 : Nat) (y_m0a63 : Nat) (y_m0a67 : Nat) (y_m0a68 : Nat) (y_m0a69 : Nat) (y_m0a70 : Nat) (y_m0a71 : Nat) (y_m0a72 : Nat) (y_m0a73 : Nat) (y_m0a74 : Nat) (y_m0a75 : Nat) : sp_X11_put g x_x0 r i v x_xr x_xt x_xg x_xb x_xp x_xu x_xm x_xd x_xw x_xh x_xa x_xs x_xf x_xts x_xtp = sp_X12_put g y_m0 r i v y_m0a1 y_m0a5 y_m0a6 y_m0a7 y_m0a8 y_m0a9 y_m0a11 y_m0a12 y_m0a13 y_m0a14 y_m0a15 y_m0a16 y_m0a18 y_m0a19 y_m0a20 y_m0a21 y_m0a22 y_m0a24 y_m0a25 y_m0a26 y_m0a28 y_m0a29 y_m0a30 y_m0a31 y_m0a33 y_m0a34 y_m0a35 y_m0a36 y_m0a37 y_m0a38 y_m0a39 y_m0a40 y_m0a41 y_m0a42 y_m0a43 y_m0a44 y_m0a45 y_m0a46 y_m0a47 y_m0a49 y_m0a50 y_m0a51 y_m0a53 y_m0a54 y_m0a55 y_m0a56 y_m0a57 y_m0a58 y_m0a59 y_m0a60 y_m0a61 y_m0a62 y_m0a63 y_m0a67 y_m0a68 y_m0a69 y_m0a70 y_m0a71 y_m0a72 y_m0a73 y_m0a74 y_m0a75 := by
  unfold sp_X11_put sp_X12_put
  repeat' split
  all_goals first | rfl | (exfalso; simp only [i32lt, i32le, i32eq, Int32.reduceToInt] at *; omega)
set_option maxRecDepth 100000 in
theorem eq_fault (g : GG) (x_x0 : Nat) (r : Int32) (x_xr : Nat) (x_xt : Nat) (x_xg : Nat) (x_xb : Nat) (x_xp : Nat) (x_xu : Nat) (x_xm : Nat) (x_xd : Nat) (x_xw : Nat) (x_xh : Nat) (x_xa : Nat) (x_xs : Nat) (x_xf : Nat) (x_xts : Nat) (x_xtp : Nat) (y_m0 : Nat) (y_m0a1 : Nat) (y_m0a5 : Nat) (y_m0a6 : Nat) (y_m0a7 : Nat) (y_m0a8 : Nat) (y_m0a9 : Nat) (y_m0a11 : Nat) (y_m0a12 : Nat) (y_m0a13 : Nat) (y_m0a14 : Nat) (y_m0a15 : Nat) (y_m0a16 : Nat) (y_m0a18 : Nat) (y_m0a19 : Nat) (y_m0a20 : Nat) (y_m0a21 : Nat) (y_m0a22 : Nat) (y_m0a24 : Nat) (y_m0a25 : Nat) (y_m0a26 : Nat) (y_m0a28 : Nat) (y_m0a29 : Nat) (y_m0a30 : Nat) (y_m0a31 : Nat) (y_m0a33 : Nat) (y_m0a34 : Nat) (y_m0a35 : Nat) (y_m0a36 : Nat) (y_m0a37 : Nat) (y_m0a38 : Nat) (y_m0a39 : Nat) (y_m0a40 : Nat) (y_m0a41 : Nat) (y_m0a42 : Nat) (y_m0a43 : Nat) (y_m0a44 : Nat) (y_m0a45 : Nat) (y_m0a46 : Nat) (y_m0a47 : Nat) (y_m0a49 : Nat) (y_m0a50 : Nat) (y_m0a51 : Nat) (y_m0a53 : Nat) (y_m0a54 : Nat) (y_m0a55 : Nat) (y_m0a56 : Nat) (y_m0a57 : Nat) (y_m0a58 : Nat) (y_m0a59 : Nat) (y_m0a60 : Nat) (y_m0a61 : Nat) (y_m0a62 : Nat) (y_m0a63 : Nat) (y_m0a67 : Nat) (y_m0a68 : Nat) (y_m0a69 : Nat) (y_m0a70 : Nat) (y_m0a71 : Nat) (y_m0a72 : Nat) (y_m0a73 : Nat) (y_m0a74 : Nat) (y_m0a75 : Nat) : sp_X11_fault g x_x0 r x_xr x_xt x_xg x_xb x_xp x_xu x_xm x_xd x_xw x_xh x_xa x_xs x_xf x_xts x_xtp = sp_X12_fault g y_m0 r y_m0a1 y_m0a5 y_m0a6 y_m0a7 y_m0a8 y_m0a9 y_m0a11 y_m0a12 y_m0a13 y_m0a14 y_m0a15 y_m0a16 y_m0a18 y_m0a19 y_m0a20 y_m0a21 y_m0a22 y_m0a24 y_m0a25 y_m0a26 y_m0a28 y_m0a29 y_m0a30 y_m0a31 y_m0a33 y_m0a34 y_m0a35 y_m0a36 y_m0a37 y_m0a38 y_m0a39 y_m0a40 y_m0a41 y_m0a42 y_m0a43 y_m0a44 y_m0a45 y_m0a46 y_m0a47 y_m0a49 y_m0a50 y_m0a51 y_m0a53 y_m0a54 y_m0a55 y_m0a56 y_m0a57 y_m0a58 y_m0a59 y_m0a60 y_m0a61 y_m0a62 y_m0a63 y_m0a67 y_m0a68 y_m0a69 y_m0a70 y_m0a71 y_m0a72 y_m0a73 y_m0a74 y_m0a75 := by
  unfold sp_X11_fault sp_X12_fault
  repeat' split
  all_goals first | rfl | (exfalso; simp only [i32lt, i32le, i32eq, Int32.reduceToInt] at *; omega)
set_option maxRecDepth 100000 in
theorem eq_later (g : GG) (x_x0 : Nat) (n : Int32) (x_xr : Nat) (x_xt : Nat) (x_xg : Nat) (x_xb : Nat) (x_xp : Nat) (x_xu : Nat) (x_xm : Nat) (x_xd : Nat) (x_xw : Nat) (x_xh : Nat) (x_xa : Nat) (x_xs : Nat) (x_xf : Nat) (y_m0 : Nat) (y_m0a1 : Nat) (y_m0a5 : Nat) (y_m0a6 : Nat) (y_m0a7 : Nat) (y_m0a8 : Nat) (y_m0a9 : Nat) (y_m0a11 : Nat) (y_m0a12 : Nat) (y_m0a13 : Nat) (y_m0a14 : Nat) (y_m0a15 : Nat) (y_m0a16 : Nat) (y_m0a18 : Nat) (y_m0a19 : Nat) (y_m0a20 : Nat) (y_m0a21 : Nat) (y_m0a22 : Nat) (y_m0a24 : Nat) (y_m0a25 : Nat) (y_m0a26 : Nat) (y_m0a28 : Nat) (y_m0a29 : Nat) (y_m0a30 : Nat) (y_m0a31 : Nat) (y_m0a33 : Nat) (y_m0a34 : Nat) (y_m0a35 : Nat) (y_m0a36 : Nat) (y_m0a37 : Nat) (y_m0a38 : Nat) (y_m0a39 : Nat) (y_m0a40 : Nat) (y_m0a41 : Nat) (y_m0a42 : Nat) (y_m0a43 : Nat) (y_m0a44 : Nat) (y_m0a45 : Nat) (y_m0a46 : Nat) (y_m0a47 : Nat) (y_m0a49 : Nat) (y_m0a50 : Nat) (y_m0a51 : Nat) (y_m0a53 : Nat) (y_m0a54 : Nat) (y_m0a55 : Nat) (y_m0a56 : Nat) (y_m0a57 : Nat) (y_m0a58 : Nat) (y_m0a59 : Nat) (y_m0a60 : Nat) (y_m0a61 : Nat) (y_m0a62 : Nat) (y_m0a63 : Nat) (y_m0a67 : Nat) (y_m0a68 : Nat) (y_m0a69 : Nat) (y_m0a70 : Nat) (y_m0a71 : Nat) (y_m0a72 : Nat) (y_m0a73 : Nat) (y_m0a74 : Nat) (y_m0a75 : Nat) : sp_X11_later g x_x0 n x_xr x_xt x_xg x_xb x_xp x_xu x_xm x_xd x_xw x_xh x_xa x_xs x_xf = sp_X12_later g y_m0 n y_m0a1 y_m0a5 y_m0a6 y_m0a7 y_m0a8 y_m0a9 y_m0a11 y_m0a12 y_m0a13 y_m0a14 y_m0a15 y_m0a16 y_m0a18 y_m0a19 y_m0a20 y_m0a21 y_m0a22 y_m0a24 y_m0a25 y_m0a26 y_m0a28 y_m0a29 y_m0a30 y_m0a31 y_m0a33 y_m0a34 y_m0a35 y_m0a36 y_m0a37 y_m0a38 y_m0a39 y_m0a40 y_m0a41 y_m0a42 y_m0a43 y_m0a44 y_m0a45 y_m0a46 y_m0a47 y_m0a49 y_m0a50 y_m0a51 y_m0a53 y_m0a54 y_m0a55 y_m0a56 y_m0a57 y_m0a58 y_m0a59 y_m0a60 y_m0a61 y_m0a62 y_m0a63 y_m0a67 y_m0a68 y_m0a69 y_m0a70 y_m0a71 y_m0a72 y_m0a73 y_m0a74 y_m0a75 := by
  unfold sp_X11_later sp_X12_later
  repeat' split
  all_goals first | rfl | (exfalso; simp only [i32lt, i32le, i32eq, Int32.reduceToInt] at *; omega)
set_option maxRecDepth 100000 in
theorem eq_cell (g : GG) (x_x0 : Nat) (c0 : Int32) (s0 : Int32) (e0 : Int32) (x_xr : Nat) (x_xt : Nat) (x_xg : Nat) (x_xb : Nat) (x_xp : Nat) (x_xu : Nat) (x_xm : Nat) (x_xd : Nat) (x_xw : Nat) (x_xh : Nat) (x_xa : Nat) (x_xs : Nat) (x_xf : Nat) (x_xgs : Nat) (x_xgh : Nat) (x_xba0 : Nat) (x_xba1 : Nat) (x_xba2 : Nat) (x_xba3 : Nat) (x_xba4 : Nat) (x_xba5 : Nat) (x_xba6 : Nat) (x_xba7 : Nat) (x_xba8 : Nat) (x_xba9 : Nat) (x_xba10 : Nat) (x_xba11 : Nat) (y_m0 : Nat) (y_m0a1 : Nat) (y_m0a5 : Nat) (y_m0a6 : Nat) (y_m0a7 : Nat) (y_m0a8 : Nat) (y_m0a9 : Nat) (y_m0a11 : Nat) (y_m0a12 : Nat) (y_m0a13 : Nat) (y_m0a14 : Nat) (y_m0a15 : Nat) (y_m0a16 : Nat) (y_m0a18 : Nat) (y_m0a19 : Nat) (y_m0a20 : Nat) (y_m0a21 : Nat) (y_m0a22 : Nat) (y_m0a24 : Nat) (y_m0a25 : Nat) (y_m0a26 : Nat) (y_m0a28 : Nat) (y_m0a29 : Nat) (y_m0a30 : Nat) (y_m0a31 : Nat) (y_m0a33 : Nat) (y_m0a34 : Nat) (y_m0a35 : Nat) (y_m0a36 : Nat) (y_m0a37 : Nat) (y_m0a38 : Nat) (y_m0a39 : Nat) (y_m0a40 : Nat) (y_m0a41 : Nat) (y_m0a42 : Nat) (y_m0a43 : Nat) (y_m0a44 : Nat) (y_m0a45 : Nat) (y_m0a46 : Nat) (y_m0a47 : Nat) (y_m0a49 : Nat) (y_m0a50 : Nat) (y_m0a51 : Nat) (y_m0a53 : Nat) (y_m0a54 : Nat) (y_m0a55 : Nat) (y_m0a56 : Nat) (y_m0a57 : Nat) (y_m0a58 : Nat) (y_m0a59 : Nat) (y_m0a60 : Nat) (y_m0a61 : Nat) (y_m0a62 : Nat) (y_m0a63 : Nat) (y_m0a67 : Nat) (y_m0a68 : Nat) (y_m0a69 : Nat) (y_m0a70 : Nat) (y_m0a71 : Nat) (y_m0a72 : Nat) (y_m0a73 : Nat) (y_m0a74 : Nat) (y_m0a75 : Nat) : sp_X11_cell g x_x0 c0 s0 e0 x_xr x_xt x_xg x_xb x_xp x_xu x_xm x_xd x_xw x_xh x_xa x_xs x_xf x_xgs x_xgh x_xba0 x_xba1 x_xba2 x_xba3 x_xba4 x_xba5 x_xba6 x_xba7 x_xba8 x_xba9 x_xba10 x_xba11 = sp_X12_cell g y_m0 c0 s0 e0 y_m0a1 y_m0a5 y_m0a6 y_m0a7 y_m0a8 y_m0a9 y_m0a11 y_m0a12 y_m0a13 y_m0a14 y_m0a15 y_m0a16 y_m0a18 y_m0a19 y_m0a20 y_m0a21 y_m0a22 y_m0a24 y_m0a25 y_m0a26 y_m0a28 y_m0a29 y_m0a30 y_m0a31 y_m0a33 y_m0a34 y_m0a35 y_m0a36 y_m0a37 y_m0a38 y_m0a39 y_m0a40 y_m0a41 y_m0a42 y_m0a43 y_m0a44 y_m0a45 y_m0a46 y_m0a47 y_m0a49 y_m0a50 y_m0a51 y_m0a53 y_m0a54 y_m0a55 y_m0a56 y_m0a57 y_m0a58 y_m0a59 y_m0a60 y_m0a61 y_m0a62 y_m0a63 y_m0a67 y_m0a68 y_m0a69 y_m0a70 y_m0a71 y_m0a72 y_m0a73 y_m0a74 y_m0a75 := by
  unfold sp_X11_cell sp_X12_cell
  repeat' split
  all_goals first | rfl | (exfalso; simp only [i32lt, i32le, i32eq, Int32.reduceToInt] at *; omega)
set_option maxRecDepth 100000 in
theorem eq_building (g : GG) (x_x0 : Nat) (c0 : Int32) (u0 : Int32) (o0 : Int32) (v0 : Int32) (x_xr : Nat) (x_xt : Nat) (x_xg : Nat) (x_xb : Nat) (x_xp : Nat) (x_xu : Nat) (x_xm : Nat) (x_xd : Nat) (x_xw : Nat) (x_xh : Nat) (x_xa : Nat) (x_xs : Nat) (x_xf : Nat) (x_xgs : Nat) (x_xgh : Nat) (x_xba0 : Nat) (x_xba1 : Nat) (x_xba2 : Nat) (x_xba3 : Nat) (x_xba4 : Nat) (x_xba5 : Nat) (x_xba6 : Nat) (x_xba7 : Nat) (x_xba8 : Nat) (x_xba9 : Nat) (x_xba10 : Nat) (x_xba11 : Nat) (y_m0 : Nat) (y_m0a1 : Nat) (y_m0a5 : Nat) (y_m0a6 : Nat) (y_m0a7 : Nat) (y_m0a8 : Nat) (y_m0a9 : Nat) (y_m0a11 : Nat) (y_m0a12 : Nat) (y_m0a13 : Nat) (y_m0a14 : Nat) (y_m0a15 : Nat) (y_m0a16 : Nat) (y_m0a18 : Nat) (y_m0a19 : Nat) (y_m0a20 : Nat) (y_m0a21 : Nat) (y_m0a22 : Nat) (y_m0a24 : Nat) (y_m0a25 : Nat) (y_m0a26 : Nat) (y_m0a28 : Nat) (y_m0a29 : Nat) (y_m0a30 : Nat) (y_m0a31 : Nat) (y_m0a33 : Nat) (y_m0a34 : Nat) (y_m0a35 : Nat) (y_m0a36 : Nat) (y_m0a37 : Nat) (y_m0a38 : Nat) (y_m0a39 : Nat) (y_m0a40 : Nat) (y_m0a41 : Nat) (y_m0a42 : Nat) (y_m0a43 : Nat) (y_m0a44 : Nat) (y_m0a45 : Nat) (y_m0a46 : Nat) (y_m0a47 : Nat) (y_m0a49 : Nat) (y_m0a50 : Nat) (y_m0a51 : Nat) (y_m0a53 : Nat) (y_m0a54 : Nat) (y_m0a55 : Nat) (y_m0a56 : Nat) (y_m0a57 : Nat) (y_m0a58 : Nat) (y_m0a59 : Nat) (y_m0a60 : Nat) (y_m0a61 : Nat) (y_m0a62 : Nat) (y_m0a63 : Nat) (y_m0a67 : Nat) (y_m0a68 : Nat) (y_m0a69 : Nat) (y_m0a70 : Nat) (y_m0a71 : Nat) (y_m0a72 : Nat) (y_m0a73 : Nat) (y_m0a74 : Nat) (y_m0a75 : Nat) : sp_X11_building g x_x0 c0 u0 o0 v0 x_xr x_xt x_xg x_xb x_xp x_xu x_xm x_xd x_xw x_xh x_xa x_xs x_xf x_xgs x_xgh x_xba0 x_xba1 x_xba2 x_xba3 x_xba4 x_xba5 x_xba6 x_xba7 x_xba8 x_xba9 x_xba10 x_xba11 = sp_X12_building g y_m0 c0 u0 o0 v0 y_m0a1 y_m0a5 y_m0a6 y_m0a7 y_m0a8 y_m0a9 y_m0a11 y_m0a12 y_m0a13 y_m0a14 y_m0a15 y_m0a16 y_m0a18 y_m0a19 y_m0a20 y_m0a21 y_m0a22 y_m0a24 y_m0a25 y_m0a26 y_m0a28 y_m0a29 y_m0a30 y_m0a31 y_m0a33 y_m0a34 y_m0a35 y_m0a36 y_m0a37 y_m0a38 y_m0a39 y_m0a40 y_m0a41 y_m0a42 y_m0a43 y_m0a44 y_m0a45 y_m0a46 y_m0a47 y_m0a49 y_m0a50 y_m0a51 y_m0a53 y_m0a54 y_m0a55 y_m0a56 y_m0a57 y_m0a58 y_m0a59 y_m0a60 y_m0a61 y_m0a62 y_m0a63 y_m0a67 y_m0a68 y_m0a69 y_m0a70 y_m0a71 y_m0a72 y_m0a73 y_m0a74 y_m0a75 := by
  unfold sp_X11_building sp_X12_building
  repeat' split
  all_goals first | rfl | (exfalso; simp only [i32lt, i32le, i32eq, Int32.reduceToInt] at *; omega)
set_option maxRecDepth 100000 in
theorem eq_worth (g : GG) (x_x0 : Nat) (b0 : Int32) (b1 : Int32) (x_xr : Nat) (x_xt : Nat) (x_xg : Nat) (x_xb : Nat) (x_xp : Nat) (x_xu : Nat) (x_xm : Nat) (x_xd : Nat) (x_xw : Nat) (x_xh : Nat) (x_xa : Nat) (x_xs : Nat) (x_xf : Nat) (x_xba0 : Nat) (x_xba1 : Nat) (x_xba2 : Nat) (x_xba3 : Nat) (x_xba4 : Nat) (x_xba5 : Nat) (x_xba6 : Nat) (x_xba7 : Nat) (x_xba8 : Nat) (x_xba9 : Nat) (x_xba10 : Nat) (x_xba11 : Nat) (y_m0 : Nat) (y_m0a1 : Nat) (y_m0a5 : Nat) (y_m0a6 : Nat) (y_m0a7 : Nat) (y_m0a8 : Nat) (y_m0a9 : Nat) (y_m0a11 : Nat) (y_m0a12 : Nat) (y_m0a13 : Nat) (y_m0a14 : Nat) (y_m0a15 : Nat) (y_m0a16 : Nat) (y_m0a18 : Nat) (y_m0a19 : Nat) (y_m0a20 : Nat) (y_m0a21 : Nat) (y_m0a22 : Nat) (y_m0a24 : Nat) (y_m0a25 : Nat) (y_m0a26 : Nat) (y_m0a28 : Nat) (y_m0a29 : Nat) (y_m0a30 : Nat) (y_m0a31 : Nat) (y_m0a33 : Nat) (y_m0a34 : Nat) (y_m0a35 : Nat) (y_m0a36 : Nat) (y_m0a37 : Nat) (y_m0a38 : Nat) (y_m0a39 : Nat) (y_m0a40 : Nat) (y_m0a41 : Nat) (y_m0a42 : Nat) (y_m0a43 : Nat) (y_m0a44 : Nat) (y_m0a45 : Nat) (y_m0a46 : Nat) (y_m0a47 : Nat) (y_m0a49 : Nat) (y_m0a50 : Nat) (y_m0a51 : Nat) (y_m0a53 : Nat) (y_m0a54 : Nat) (y_m0a55 : Nat) (y_m0a56 : Nat) (y_m0a57 : Nat) (y_m0a58 : Nat) (y_m0a59 : Nat) (y_m0a60 : Nat) (y_m0a61 : Nat) (y_m0a62 : Nat) (y_m0a63 : Nat) (y_m0a67 : Nat) (y_m0a68 : Nat) (y_m0a69 : Nat) (y_m0a70 : Nat) (y_m0a71 : Nat) (y_m0a72 : Nat) (y_m0a73 : Nat) (y_m0a74 : Nat) (y_m0a75 : Nat) : sp_X11_worth g x_x0 b0 b1 x_xr x_xt x_xg x_xb x_xp x_xu x_xm x_xd x_xw x_xh x_xa x_xs x_xf x_xba0 x_xba1 x_xba2 x_xba3 x_xba4 x_xba5 x_xba6 x_xba7 x_xba8 x_xba9 x_xba10 x_xba11 = sp_X12_worth g y_m0 b0 b1 y_m0a1 y_m0a5 y_m0a6 y_m0a7 y_m0a8 y_m0a9 y_m0a11 y_m0a12 y_m0a13 y_m0a14 y_m0a15 y_m0a16 y_m0a18 y_m0a19 y_m0a20 y_m0a21 y_m0a22 y_m0a24 y_m0a25 y_m0a26 y_m0a28 y_m0a29 y_m0a30 y_m0a31 y_m0a33 y_m0a34 y_m0a35 y_m0a36 y_m0a37 y_m0a38 y_m0a39 y_m0a40 y_m0a41 y_m0a42 y_m0a43 y_m0a44 y_m0a45 y_m0a46 y_m0a47 y_m0a49 y_m0a50 y_m0a51 y_m0a53 y_m0a54 y_m0a55 y_m0a56 y_m0a57 y_m0a58 y_m0a59 y_m0a60 y_m0a61 y_m0a62 y_m0a63 y_m0a67 y_m0a68 y_m0a69 y_m0a70 y_m0a71 y_m0a72 y_m0a73 y_m0a74 y_m0a75 := by
  unfold sp_X11_worth sp_X12_worth
  repeat' split
  all_goals first | rfl | (exfalso; simp only [i32lt, i32le, i32eq, Int32.reduceToInt] at *; omega)
set_option maxRecDepth 100000 in
theorem eq_value (g : GG) (x_x0 : Nat) (b0 : Int32) (b1 : Int32) (x_xr : Nat) (x_xt : Nat) (x_xg : Nat) (x_xb : Nat) (x_xp : Nat) (x_xu : Nat) (x_xm : Nat) (x_xd : Nat) (x_xw : Nat) (x_xh : Nat) (x_xa : Nat) (x_xs : Nat) (x_xf : Nat) (x_xba0 : Nat) (x_xba1 : Nat) (x_xba2 : Nat) (x_xba3 : Nat) (x_xba4 : Nat) (x_xba5 : Nat) (x_xba6 : Nat) (x_xba7 : Nat) (x_xba8 : Nat) (x_xba9 : Nat) (x_xba10 : Nat) (x_xba11 : Nat) (y_m0 : Nat) (y_m0a1 : Nat) (y_m0a5 : Nat) (y_m0a6 : Nat) (y_m0a7 : Nat) (y_m0a8 : Nat) (y_m0a9 : Nat) (y_m0a11 : Nat) (y_m0a12 : Nat) (y_m0a13 : Nat) (y_m0a14 : Nat) (y_m0a15 : Nat) (y_m0a16 : Nat) (y_m0a18 : Nat) (y_m0a19 : Nat) (y_m0a20 : Nat) (y_m0a21 : Nat) (y_m0a22 : Nat) (y_m0a24 : Nat) (y_m0a25 : Nat) (y_m0a26 : Nat) (y_m0a28 : Nat) (y_m0a29 : Nat) (y_m0a30 : Nat) (y_m0a31 : Nat) (y_m0a33 : Nat) (y_m0a34 : Nat) (y_m0a35 : Nat) (y_m0a36 : Nat) (y_m0a37 : Nat) (y_m0a38 : Nat) (y_m0a39 : Nat) (y_m0a40 : Nat) (y_m0a41 : Nat) (y_m0a42 : Nat) (y_m0a43 : Nat) (y_m0a44 : Nat) (y_m0a45 : Nat) (y_m0a46 : Nat) (y_m0a47 : Nat) (y_m0a49 : Nat) (y_m0a50 : Nat) (y_m0a51 : Nat) (y_m0a53 : Nat) (y_m0a54 : Nat) (y_m0a55 : Nat) (y_m0a56 : Nat) (y_m0a57 : Nat) (y_m0a58 : Nat) (y_m0a59 : Nat) (y_m0a60 : Nat) (y_m0a61 : Nat) (y_m0a62 : Nat) (y_m0a63 : Nat) (y_m0a67 : Nat) (y_m0a68 : Nat) (y_m0a69 : Nat) (y_m0a70 : Nat) (y_m0a71 : Nat) (y_m0a72 : Nat) (y_m0a73 : Nat) (y_m0a74 : Nat) (y_m0a75 : Nat) : sp_X11_value g x_x0 b0 b1 x_xr x_xt x_xg x_xb x_xp x_xu x_xm x_xd x_xw x_xh x_xa x_xs x_xf x_xba0 x_xba1 x_xba2 x_xba3 x_xba4 x_xba5 x_xba6 x_xba7 x_xba8 x_xba9 x_xba10 x_xba11 = sp_X12_value g y_m0 b0 b1 y_m0a1 y_m0a5 y_m0a6 y_m0a7 y_m0a8 y_m0a9 y_m0a11 y_m0a12 y_m0a13 y_m0a14 y_m0a15 y_m0a16 y_m0a18 y_m0a19 y_m0a20 y_m0a21 y_m0a22 y_m0a24 y_m0a25 y_m0a26 y_m0a28 y_m0a29 y_m0a30 y_m0a31 y_m0a33 y_m0a34 y_m0a35 y_m0a36 y_m0a37 y_m0a38 y_m0a39 y_m0a40 y_m0a41 y_m0a42 y_m0a43 y_m0a44 y_m0a45 y_m0a46 y_m0a47 y_m0a49 y_m0a50 y_m0a51 y_m0a53 y_m0a54 y_m0a55 y_m0a56 y_m0a57 y_m0a58 y_m0a59 y_m0a60 y_m0a61 y_m0a62 y_m0a63 y_m0a67 y_m0a68 y_m0a69 y_m0a70 y_m0a71 y_m0a72 y_m0a73 y_m0a74 y_m0a75 := by
  unfold sp_X11_value sp_X12_value
  repeat' split
  all_goals first | rfl | (exfalso; simp only [i32lt, i32le, i32eq, Int32.reduceToInt] at *; omega)
set_option maxRecDepth 100000 in
theorem eq_house (g : GG) (x_x0 : Nat) (b0 : Int32) (b1 : Int32) (x_xr : Nat) (x_xt : Nat) (x_xg : Nat) (x_xb : Nat) (x_xp : Nat) (x_xu : Nat) (x_xm : Nat) (x_xd : Nat) (x_xw : Nat) (x_xh : Nat) (x_xa : Nat) (x_xs : Nat) (x_xf : Nat) (x_xba0 : Nat) (x_xba1 : Nat) (x_xba2 : Nat) (x_xba3 : Nat) (x_xba4 : Nat) (x_xba5 : Nat) (x_xba6 : Nat) (x_xba7 : Nat) (x_xba8 : Nat) (x_xba9 : Nat) (x_xba10 : Nat) (x_xba11 : Nat) (y_m0 : Nat) (y_m0a1 : Nat) (y_m0a5 : Nat) (y_m0a6 : Nat) (y_m0a7 : Nat) (y_m0a8 : Nat) (y_m0a9 : Nat) (y_m0a11 : Nat) (y_m0a12 : Nat) (y_m0a13 : Nat) (y_m0a14 : Nat) (y_m0a15 : Nat) (y_m0a16 : Nat) (y_m0a18 : Nat) (y_m0a19 : Nat) (y_m0a20 : Nat) (y_m0a21 : Nat) (y_m0a22 : Nat) (y_m0a24 : Nat) (y_m0a25 : Nat) (y_m0a26 : Nat) (y_m0a28 : Nat) (y_m0a29 : Nat) (y_m0a30 : Nat) (y_m0a31 : Nat) (y_m0a33 : Nat) (y_m0a34 : Nat) (y_m0a35 : Nat) (y_m0a36 : Nat) (y_m0a37 : Nat) (y_m0a38 : Nat) (y_m0a39 : Nat) (y_m0a40 : Nat) (y_m0a41 : Nat) (y_m0a42 : Nat) (y_m0a43 : Nat) (y_m0a44 : Nat) (y_m0a45 : Nat) (y_m0a46 : Nat) (y_m0a47 : Nat) (y_m0a49 : Nat) (y_m0a50 : Nat) (y_m0a51 : Nat) (y_m0a53 : Nat) (y_m0a54 : Nat) (y_m0a55 : Nat) (y_m0a56 : Nat) (y_m0a57 : Nat) (y_m0a58 : Nat) (y_m0a59 : Nat) (y_m0a60 : Nat) (y_m0a61 : Nat) (y_m0a62 : Nat) (y_m0a63 : Nat) (y_m0a67 : Nat) (y_m0a68 : Nat) (y_m0a69 : Nat) (y_m0a70 : Nat) (y_m0a71 : Nat) (y_m0a72 : Nat) (y_m0a73 : Nat) (y_m0a74 : Nat) (y_m0a75 : Nat) : sp_X11_house g x_x0 b0 b1 x_xr x_xt x_xg x_xb x_xp x_xu x_xm x_xd x_xw x_xh x_xa x_xs x_xf x_xba0 x_xba1 x_xba2 x_xba3 x_xba4 x_xba5 x_xba6 x_xba7 x_xba8 x_xba9 x_xba10 x_xba11 = sp_X12_house g y_m0 b0 b1 y_m0a1 y_m0a5 y_m0a6 y_m0a7 y_m0a8 y_m0a9 y_m0a11 y_m0a12 y_m0a13 y_m0a14 y_m0a15 y_m0a16 y_m0a18 y_m0a19 y_m0a20 y_m0a21 y_m0a22 y_m0a24 y_m0a25 y_m0a26 y_m0a28 y_m0a29 y_m0a30 y_m0a31 y_m0a33 y_m0a34 y_m0a35 y_m0a36 y_m0a37 y_m0a38 y_m0a39 y_m0a40 y_m0a41 y_m0a42 y_m0a43 y_m0a44 y_m0a45 y_m0a46 y_m0a47 y_m0a49 y_m0a50 y_m0a51 y_m0a53 y_m0a54 y_m0a55 y_m0a56 y_m0a57 y_m0a58 y_m0a59 y_m0a60 y_m0a61 y_m0a62 y_m0a63 y_m0a67 y_m0a68 y_m0a69 y_m0a70 y_m0a71 y_m0a72 y_m0a73 y_m0a74 y_m0a75 := by
  unfold sp_X11_house sp_X12_house
  repeat' split
  all_goals first | rfl | (exfalso; simp only [i32lt, i32le, i32eq, Int32.reduceToInt] at *; omega)
set_option maxRecDepth 100000 in
theorem eq_person (g : GG) (x_x0 : Nat) (b0 : Int32) (w0 : Int32) (z0 : Int32) (k0 : Int32) (x_xr : Nat) (x_xt : Nat) (x_xg : Nat) (x_xb : Nat) (x_xp : Nat) (x_xu : Nat) (x_xm : Nat) (x_xd : Nat) (x_xw : Nat) (x_xh : Nat) (x_xa : Nat) (x_xs : Nat) (x_xf : Nat) (x_xba0 : Nat) (x_xba1 : Nat) (x_xba2 : Nat) (x_xba3 : Nat) (x_xba4 : Nat) (x_xba5 : Nat) (x_xba6 : Nat) (x_xba7 : Nat) (x_xba8 : Nat) (x_xba9 : Nat) (x_xba10 : Nat) (x_xba11 : Nat) (x_xpa0 : Nat) (x_xpa1 : Nat) (x_xpa2 : Nat) (x_xpa3 : Nat) (y_m0 : Nat) (y_m0a1 : Nat) (y_m0a5 : Nat) (y_m0a6 : Nat) (y_m0a7 : Nat) (y_m0a8 : Nat) (y_m0a9 : Nat) (y_m0a11 : Nat) (y_m0a12 : Nat) (y_m0a13 : Nat) (y_m0a14 : Nat) (y_m0a15 : Nat) (y_m0a16 : Nat) (y_m0a18 : Nat) (y_m0a19 : Nat) (y_m0a20 : Nat) (y_m0a21 : Nat) (y_m0a22 : Nat) (y_m0a24 : Nat) (y_m0a25 : Nat) (y_m0a26 : Nat) (y_m0a28 : Nat) (y_m0a29 : Nat) (y_m0a30 : Nat) (y_m0a31 : Nat) (y_m0a33 : Nat) (y_m0a34 : Nat) (y_m0a35 : Nat) (y_m0a36 : Nat) (y_m0a37 : Nat) (y_m0a38 : Nat) (y_m0a39 : Nat) (y_m0a40 : Nat) (y_m0a41 : Nat) (y_m0a42 : Nat) (y_m0a43 : Nat) (y_m0a44 : Nat) (y_m0a45 : Nat) (y_m0a46 : Nat) (y_m0a47 : Nat) (y_m0a49 : Nat) (y_m0a50 : Nat) (y_m0a51 : Nat) (y_m0a53 : Nat) (y_m0a54 : Nat) (y_m0a55 : Nat) (y_m0a56 : Nat) (y_m0a57 : Nat) (y_m0a58 : Nat) (y_m0a59 : Nat) (y_m0a60 : Nat) (y_m0a61 : Nat) (y_m0a62 : Nat) (y_m0a63 : Nat) (y_m0a67 : Nat) (y_m0a68 : Nat) (y_m0a69 : Nat) (y_m0a70 : Nat) (y_m0a71 : Nat) (y_m0a72 : Nat) (y_m0a73 : Nat) (y_m0a74 : Nat) (y_m0a75 : Nat) : sp_X11_person g x_x0 b0 w0 z0 k0 x_xr x_xt x_xg x_xb x_xp x_xu x_xm x_xd x_xw x_xh x_xa x_xs x_xf x_xba0 x_xba1 x_xba2 x_xba3 x_xba4 x_xba5 x_xba6 x_xba7 x_xba8 x_xba9 x_xba10 x_xba11 x_xpa0 x_xpa1 x_xpa2 x_xpa3 = sp_X12_person g y_m0 b0 w0 z0 k0 y_m0a1 y_m0a5 y_m0a6 y_m0a7 y_m0a8 y_m0a9 y_m0a11 y_m0a12 y_m0a13 y_m0a14 y_m0a15 y_m0a16 y_m0a18 y_m0a19 y_m0a20 y_m0a21 y_m0a22 y_m0a24 y_m0a25 y_m0a26 y_m0a28 y_m0a29 y_m0a30 y_m0a31 y_m0a33 y_m0a34 y_m0a35 y_m0a36 y_m0a37 y_m0a38 y_m0a39 y_m0a40 y_m0a41 y_m0a42 y_m0a43 y_m0a44 y_m0a45 y_m0a46 y_m0a47 y_m0a49 y_m0a50 y_m0a51 y_m0a53 y_m0a54 y_m0a55 y_m0a56 y_m0a57 y_m0a58 y_m0a59 y_m0a60 y_m0a61 y_m0a62 y_m0a63 y_m0a67 y_m0a68 y_m0a69 y_m0a70 y_m0a71 y_m0a72 y_m0a73 y_m0a74 y_m0a75 := by
  unfold sp_X11_person sp_X12_person
  repeat' split
  all_goals first | rfl | (exfalso; simp only [i32lt, i32le, i32eq, Int32.reduceToInt] at *; omega)
set_option maxRecDepth 100000 in
theorem eq_who (g : GG) (x_x0 : Nat) (b0 : Int32) (b1 : Int32) (x_xr : Nat) (x_xt : Nat) (x_xg : Nat) (x_xb : Nat) (x_xp : Nat) (x_xu : Nat) (x_xm : Nat) (x_xd : Nat) (x_xw : Nat) (x_xh : Nat) (x_xa : Nat) (x_xs : Nat) (x_xf : Nat) (x_xpa0 : Nat) (x_xpa1 : Nat) (x_xpa2 : Nat) (x_xpa3 : Nat) (y_m0 : Nat) (y_m0a1 : Nat) (y_m0a5 : Nat) (y_m0a6 : Nat) (y_m0a7 : Nat) (y_m0a8 : Nat) (y_m0a9 : Nat) (y_m0a11 : Nat) (y_m0a12 : Nat) (y_m0a13 : Nat) (y_m0a14 : Nat) (y_m0a15 : Nat) (y_m0a16 : Nat) (y_m0a18 : Nat) (y_m0a19 : Nat) (y_m0a20 : Nat) (y_m0a21 : Nat) (y_m0a22 : Nat) (y_m0a24 : Nat) (y_m0a25 : Nat) (y_m0a26 : Nat) (y_m0a28 : Nat) (y_m0a29 : Nat) (y_m0a30 : Nat) (y_m0a31 : Nat) (y_m0a33 : Nat) (y_m0a34 : Nat) (y_m0a35 : Nat) (y_m0a36 : Nat) (y_m0a37 : Nat) (y_m0a38 : Nat) (y_m0a39 : Nat) (y_m0a40 : Nat) (y_m0a41 : Nat) (y_m0a42 : Nat) (y_m0a43 : Nat) (y_m0a44 : Nat) (y_m0a45 : Nat) (y_m0a46 : Nat) (y_m0a47 : Nat) (y_m0a49 : Nat) (y_m0a50 : Nat) (y_m0a51 : Nat) (y_m0a53 : Nat) (y_m0a54 : Nat) (y_m0a55 : Nat) (y_m0a56 : Nat) (y_m0a57 : Nat) (y_m0a58 : Nat) (y_m0a59 : Nat) (y_m0a60 : Nat) (y_m0a61 : Nat) (y_m0a62 : Nat) (y_m0a63 : Nat) (y_m0a67 : Nat) (y_m0a68 : Nat) (y_m0a69 : Nat) (y_m0a70 : Nat) (y_m0a71 : Nat) (y_m0a72 : Nat) (y_m0a73 : Nat) (y_m0a74 : Nat) (y_m0a75 : Nat) : sp_X11_who g x_x0 b0 b1 x_xr x_xt x_xg x_xb x_xp x_xu x_xm x_xd x_xw x_xh x_xa x_xs x_xf x_xpa0 x_xpa1 x_xpa2 x_xpa3 = sp_X12_who g y_m0 b0 b1 y_m0a1 y_m0a5 y_m0a6 y_m0a7 y_m0a8 y_m0a9 y_m0a11 y_m0a12 y_m0a13 y_m0a14 y_m0a15 y_m0a16 y_m0a18 y_m0a19 y_m0a20 y_m0a21 y_m0a22 y_m0a24 y_m0a25 y_m0a26 y_m0a28 y_m0a29 y_m0a30 y_m0a31 y_m0a33 y_m0a34 y_m0a35 y_m0a36 y_m0a37 y_m0a38 y_m0a39 y_m0a40 y_m0a41 y_m0a42 y_m0a43 y_m0a44 y_m0a45 y_m0a46 y_m0a47 y_m0a49 y_m0a50 y_m0a51 y_m0a53 y_m0a54 y_m0a55 y_m0a56 y_m0a57 y_m0a58 y_m0a59 y_m0a60 y_m0a61 y_m0a62 y_m0a63 y_m0a67 y_m0a68 y_m0a69 y_m0a70 y_m0a71 y_m0a72 y_m0a73 y_m0a74 y_m0a75 := by
  unfold sp_X11_who sp_X12_who
  repeat' split
  all_goals first | rfl | (exfalso; simp only [i32lt, i32le, i32eq, Int32.reduceToInt] at *; omega)
set_option maxRecDepth 100000 in
theorem eq_mean (g : GG) (x_x0 : Nat) (u0 : Int32) (x_xr : Nat) (x_xt : Nat) (x_xg : Nat) (x_xb : Nat) (x_xp : Nat) (x_xu : Nat) (x_xm : Nat) (x_xd : Nat) (x_xw : Nat) (x_xh : Nat) (x_xa : Nat) (x_xs : Nat) (x_xf : Nat) (x_xba0 : Nat) (x_xba1 : Nat) (x_xba2 : Nat) (x_xba3 : Nat) (x_xba4 : Nat) (x_xba5 : Nat) (x_xba6 : Nat) (x_xba7 : Nat) (x_xba8 : Nat) (x_xba9 : Nat) (x_xba10 : Nat) (x_xba11 : Nat) (y_m0 : Nat) (y_m0a1 : Nat) (y_m0a5 : Nat) (y_m0a6 : Nat) (y_m0a7 : Nat) (y_m0a8 : Nat) (y_m0a9 : Nat) (y_m0a11 : Nat) (y_m0a12 : Nat) (y_m0a13 : Nat) (y_m0a14 : Nat) (y_m0a15 : Nat) (y_m0a16 : Nat) (y_m0a18 : Nat) (y_m0a19 : Nat) (y_m0a20 : Nat) (y_m0a21 : Nat) (y_m0a22 : Nat) (y_m0a24 : Nat) (y_m0a25 : Nat) (y_m0a26 : Nat) (y_m0a28 : Nat) (y_m0a29 : Nat) (y_m0a30 : Nat) (y_m0a31 : Nat) (y_m0a33 : Nat) (y_m0a34 : Nat) (y_m0a35 : Nat) (y_m0a36 : Nat) (y_m0a37 : Nat) (y_m0a38 : Nat) (y_m0a39 : Nat) (y_m0a40 : Nat) (y_m0a41 : Nat) (y_m0a42 : Nat) (y_m0a43 : Nat) (y_m0a44 : Nat) (y_m0a45 : Nat) (y_m0a46 : Nat) (y_m0a47 : Nat) (y_m0a49 : Nat) (y_m0a50 : Nat) (y_m0a51 : Nat) (y_m0a53 : Nat) (y_m0a54 : Nat) (y_m0a55 : Nat) (y_m0a56 : Nat) (y_m0a57 : Nat) (y_m0a58 : Nat) (y_m0a59 : Nat) (y_m0a60 : Nat) (y_m0a61 : Nat) (y_m0a62 : Nat) (y_m0a63 : Nat) (y_m0a67 : Nat) (y_m0a68 : Nat) (y_m0a69 : Nat) (y_m0a70 : Nat) (y_m0a71 : Nat) (y_m0a72 : Nat) (y_m0a73 : Nat) (y_m0a74 : Nat) (y_m0a75 : Nat) : sp_X11_mean g x_x0 u0 x_xr x_xt x_xg x_xb x_xp x_xu x_xm x_xd x_xw x_xh x_xa x_xs x_xf x_xba0 x_xba1 x_xba2 x_xba3 x_xba4 x_xba5 x_xba6 x_xba7 x_xba8 x_xba9 x_xba10 x_xba11 = sp_X12_mean g y_m0 u0 y_m0a1 y_m0a5 y_m0a6 y_m0a7 y_m0a8 y_m0a9 y_m0a11 y_m0a12 y_m0a13 y_m0a14 y_m0a15 y_m0a16 y_m0a18 y_m0a19 y_m0a20 y_m0a21 y_m0a22 y_m0a24 y_m0a25 y_m0a26 y_m0a28 y_m0a29 y_m0a30 y_m0a31 y_m0a33 y_m0a34 y_m0a35 y_m0a36 y_m0a37 y_m0a38 y_m0a39 y_m0a40 y_m0a41 y_m0a42 y_m0a43 y_m0a44 y_m0a45 y_m0a46 y_m0a47 y_m0a49 y_m0a50 y_m0a51 y_m0a53 y_m0a54 y_m0a55 y_m0a56 y_m0a57 y_m0a58 y_m0a59 y_m0a60 y_m0a61 y_m0a62 y_m0a63 y_m0a67 y_m0a68 y_m0a69 y_m0a70 y_m0a71 y_m0a72 y_m0a73 y_m0a74 y_m0a75 := by
  unfold sp_X11_mean sp_X12_mean
  repeat' split
  all_goals first | rfl | (exfalso; simp only [i32lt, i32le, i32eq, Int32.reduceToInt] at *; omega)
set_option maxRecDepth 100000 in
theorem eq_rule (g : GG) (x_x0 : Nat) (r : Int32) (d0 : Int32) (x_xr : Nat) (x_xt : Nat) (x_xg : Nat) (x_xb : Nat) (x_xp : Nat) (x_xu : Nat) (x_xm : Nat) (x_xd : Nat) (x_xw : Nat) (x_xh : Nat) (x_xa : Nat) (x_xs : Nat) (x_xf : Nat) (x_xts : Nat) (x_xtp : Nat) (x_xua0 : Nat) (x_xua1 : Nat) (x_xua2 : Nat) (y_m0 : Nat) (y_m0a1 : Nat) (y_m0a5 : Nat) (y_m0a6 : Nat) (y_m0a7 : Nat) (y_m0a8 : Nat) (y_m0a9 : Nat) (y_m0a11 : Nat) (y_m0a12 : Nat) (y_m0a13 : Nat) (y_m0a14 : Nat) (y_m0a15 : Nat) (y_m0a16 : Nat) (y_m0a18 : Nat) (y_m0a19 : Nat) (y_m0a20 : Nat) (y_m0a21 : Nat) (y_m0a22 : Nat) (y_m0a24 : Nat) (y_m0a25 : Nat) (y_m0a26 : Nat) (y_m0a28 : Nat) (y_m0a29 : Nat) (y_m0a30 : Nat) (y_m0a31 : Nat) (y_m0a33 : Nat) (y_m0a34 : Nat) (y_m0a35 : Nat) (y_m0a36 : Nat) (y_m0a37 : Nat) (y_m0a38 : Nat) (y_m0a39 : Nat) (y_m0a40 : Nat) (y_m0a41 : Nat) (y_m0a42 : Nat) (y_m0a43 : Nat) (y_m0a44 : Nat) (y_m0a45 : Nat) (y_m0a46 : Nat) (y_m0a47 : Nat) (y_m0a49 : Nat) (y_m0a50 : Nat) (y_m0a51 : Nat) (y_m0a53 : Nat) (y_m0a54 : Nat) (y_m0a55 : Nat) (y_m0a56 : Nat) (y_m0a57 : Nat) (y_m0a58 : Nat) (y_m0a59 : Nat) (y_m0a60 : Nat) (y_m0a61 : Nat) (y_m0a62 : Nat) (y_m0a63 : Nat) (y_m0a67 : Nat) (y_m0a68 : Nat) (y_m0a69 : Nat) (y_m0a70 : Nat) (y_m0a71 : Nat) (y_m0a72 : Nat) (y_m0a73 : Nat) (y_m0a74 : Nat) (y_m0a75 : Nat) : sp_X11_rule g x_x0 r d0 x_xr x_xt x_xg x_xb x_xp x_xu x_xm x_xd x_xw x_xh x_xa x_xs x_xf x_xts x_xtp x_xua0 x_xua1 x_xua2 = sp_X12_rule g y_m0 r d0 y_m0a1 y_m0a5 y_m0a6 y_m0a7 y_m0a8 y_m0a9 y_m0a11 y_m0a12 y_m0a13 y_m0a14 y_m0a15 y_m0a16 y_m0a18 y_m0a19 y_m0a20 y_m0a21 y_m0a22 y_m0a24 y_m0a25 y_m0a26 y_m0a28 y_m0a29 y_m0a30 y_m0a31 y_m0a33 y_m0a34 y_m0a35 y_m0a36 y_m0a37 y_m0a38 y_m0a39 y_m0a40 y_m0a41 y_m0a42 y_m0a43 y_m0a44 y_m0a45 y_m0a46 y_m0a47 y_m0a49 y_m0a50 y_m0a51 y_m0a53 y_m0a54 y_m0a55 y_m0a56 y_m0a57 y_m0a58 y_m0a59 y_m0a60 y_m0a61 y_m0a62 y_m0a63 y_m0a67 y_m0a68 y_m0a69 y_m0a70 y_m0a71 y_m0a72 y_m0a73 y_m0a74 y_m0a75 := by
  unfold sp_X11_rule sp_X12_rule
  repeat' split
  all_goals first | rfl | (exfalso; simp only [i32lt, i32le, i32eq, Int32.reduceToInt] at *; omega)
set_option maxRecDepth 100000 in
theorem eq_force (g : GG) (x_x0 : Nat) (l0 : Int32) (d0 : Int32) (k0 : Int32) (x_xr : Nat) (x_xt : Nat) (x_xg : Nat) (x_xb : Nat) (x_xp : Nat) (x_xu : Nat) (x_xm : Nat) (x_xd : Nat) (x_xw : Nat) (x_xh : Nat) (x_xa : Nat) (x_xs : Nat) (x_xf : Nat) (x_xua0 : Nat) (x_xua1 : Nat) (x_xua2 : Nat) (y_m0 : Nat) (y_m0a1 : Nat) (y_m0a5 : Nat) (y_m0a6 : Nat) (y_m0a7 : Nat) (y_m0a8 : Nat) (y_m0a9 : Nat) (y_m0a11 : Nat) (y_m0a12 : Nat) (y_m0a13 : Nat) (y_m0a14 : Nat) (y_m0a15 : Nat) (y_m0a16 : Nat) (y_m0a18 : Nat) (y_m0a19 : Nat) (y_m0a20 : Nat) (y_m0a21 : Nat) (y_m0a22 : Nat) (y_m0a24 : Nat) (y_m0a25 : Nat) (y_m0a26 : Nat) (y_m0a28 : Nat) (y_m0a29 : Nat) (y_m0a30 : Nat) (y_m0a31 : Nat) (y_m0a33 : Nat) (y_m0a34 : Nat) (y_m0a35 : Nat) (y_m0a36 : Nat) (y_m0a37 : Nat) (y_m0a38 : Nat) (y_m0a39 : Nat) (y_m0a40 : Nat) (y_m0a41 : Nat) (y_m0a42 : Nat) (y_m0a43 : Nat) (y_m0a44 : Nat) (y_m0a45 : Nat) (y_m0a46 : Nat) (y_m0a47 : Nat) (y_m0a49 : Nat) (y_m0a50 : Nat) (y_m0a51 : Nat) (y_m0a53 : Nat) (y_m0a54 : Nat) (y_m0a55 : Nat) (y_m0a56 : Nat) (y_m0a57 : Nat) (y_m0a58 : Nat) (y_m0a59 : Nat) (y_m0a60 : Nat) (y_m0a61 : Nat) (y_m0a62 : Nat) (y_m0a63 : Nat) (y_m0a67 : Nat) (y_m0a68 : Nat) (y_m0a69 : Nat) (y_m0a70 : Nat) (y_m0a71 : Nat) (y_m0a72 : Nat) (y_m0a73 : Nat) (y_m0a74 : Nat) (y_m0a75 : Nat) : sp_X11_force g x_x0 l0 d0 k0 x_xr x_xt x_xg x_xb x_xp x_xu x_xm x_xd x_xw x_xh x_xa x_xs x_xf x_xua0 x_xua1 x_xua2 = sp_X12_force g y_m0 l0 d0 k0 y_m0a1 y_m0a5 y_m0a6 y_m0a7 y_m0a8 y_m0a9 y_m0a11 y_m0a12 y_m0a13 y_m0a14 y_m0a15 y_m0a16 y_m0a18 y_m0a19 y_m0a20 y_m0a21 y_m0a22 y_m0a24 y_m0a25 y_m0a26 y_m0a28 y_m0a29 y_m0a30 y_m0a31 y_m0a33 y_m0a34 y_m0a35 y_m0a36 y_m0a37 y_m0a38 y_m0a39 y_m0a40 y_m0a41 y_m0a42 y_m0a43 y_m0a44 y_m0a45 y_m0a46 y_m0a47 y_m0a49 y_m0a50 y_m0a51 y_m0a53 y_m0a54 y_m0a55 y_m0a56 y_m0a57 y_m0a58 y_m0a59 y_m0a60 y_m0a61 y_m0a62 y_m0a63 y_m0a67 y_m0a68 y_m0a69 y_m0a70 y_m0a71 y_m0a72 y_m0a73 y_m0a74 y_m0a75 := by
  unfold sp_X11_force sp_X12_force
  by_cases h0 : l0 < 0
  · rw [if_pos h0, if_pos h0]
  · by_cases h8 : 8 ≤ l0
    · rw [if_neg h0, if_pos h8, if_neg h0, if_pos (show (7 : Int32) < l0 from by simp only [i32lt, i32le, Int32.reduceToInt] at h8 ⊢; omega)]
    · rw [if_neg h0, if_neg h8, if_neg h0, if_neg (show ¬ (7 : Int32) < l0 from by simp only [i32lt, i32le, Int32.reduceToInt] at h8 ⊢; omega), def8tree l0 h0 h8]
set_option maxHeartbeats 4000000 in
set_option maxRecDepth 100000 in
theorem law_0 (l : Launch) (g : GG) {p : Program} {e : Env} {s : State} {m : MethodId} {below : List Frame} {meth : Method} {c : Code} {b : Nat} {scr : Nat → Int32} (X : En p s m #[Value.ref b] meth c cL_law 4 ret R_law meth.name) (hK : va_K g.1 classes (tyG g) s) (hA : ∀ q, s.heap.size ≤ q → laA s q) (hZ : stS g (laA s) s s.heap) (hX : va_X b 6 scr s s.heap) (hbl : b < s.heap.size) (hbA : ¬ laA s b) (x0 : Nat) (xr : Nat) (xt : Nat) (xg : Nat) (xb : Nat) (xp : Nat) (xu : Nat) (xm : Nat) (xd : Nat) (xw : Nat) (xh : Nat) (xa : Nat) (xs : Nat) (xf : Nat) (xrs : Nat) (xrp : Nat) (m0 : Nat) (m0a1 : Nat) (m0a5 : Nat) (m0a6 : Nat) (m0a7 : Nat) (m0a8 : Nat) (m0a9 : Nat) (m0a11 : Nat) (m0a12 : Nat) (m0a13 : Nat) (m0a14 : Nat) (m0a15 : Nat) (m0a16 : Nat) (m0a18 : Nat) (m0a19 : Nat) (m0a20 : Nat) (m0a21 : Nat) (m0a22 : Nat) (m0a24 : Nat) (m0a25 : Nat) (m0a26 : Nat) (m0a28 : Nat) (m0a29 : Nat) (m0a30 : Nat) (m0a31 : Nat) (m0a33 : Nat) (m0a34 : Nat) (m0a35 : Nat) (m0a36 : Nat) (m0a37 : Nat) (m0a38 : Nat) (m0a39 : Nat) (m0a40 : Nat) (m0a41 : Nat) (m0a42 : Nat) (m0a43 : Nat) (m0a44 : Nat) (m0a45 : Nat) (m0a46 : Nat) (m0a47 : Nat) (m0a49 : Nat) (m0a50 : Nat) (m0a51 : Nat) (m0a53 : Nat) (m0a54 : Nat) (m0a55 : Nat) (m0a56 : Nat) (m0a57 : Nat) (m0a58 : Nat) (m0a59 : Nat) (m0a60 : Nat) (m0a61 : Nat) (m0a62 : Nat) (m0a63 : Nat) (m0a67 : Nat) (m0a68 : Nat) (m0a69 : Nat) (m0a70 : Nat) (m0a71 : Nat) (m0a72 : Nat) (m0a73 : Nat) (m0a74 : Nat) (m0a75 : Nat) {H : Heap} {locs : List Loc} {ls : Array Slot} (hP : va_P g.1 classes [(x0, .inr (11, [.ref xr, .ref xt, .ref xg, .ref xb, .ref xp, .ref xu, .ref xm, .ref xd, .ref xw, .ref xh, .ref xa, .ref xs, .ref xf, .int 0, .int 0, .long 0, .long 0, .int 0])), (xr, .inr (8, [.int 6, .int 0, .ref xrs, .ref xrp])), (xrs, .inl (cI g, 6, .inl (fun _ => (-1)))), (xrp, .inl (cI g, 240, .inl (fun _ => 0))), (xf, .inl (cI g, 6, .inl (fun _ => 0))), (m0, .inr (12, [.int 0, .ref m0a1, .int 0, .long 0, .int 0, .ref m0a5, .ref m0a6, .ref m0a7, .ref m0a8, .ref m0a9, .int 0, .ref m0a11, .ref m0a12, .ref m0a13, .ref m0a14, .ref m0a15, .ref m0a16, .int 0, .ref m0a18, .ref m0a19, .ref m0a20, .ref m0a21, .ref m0a22, .int 0, .ref m0a24, .ref m0a25, .ref m0a26, .int 0, .ref m0a28, .ref m0a29, .ref m0a30, .ref m0a31, .int 0, .ref m0a33, .ref m0a34, .ref m0a35, .ref m0a36, .ref m0a37, .ref m0a38, .ref m0a39, .ref m0a40, .ref m0a41, .ref m0a42, .ref m0a43, .ref m0a44, .ref m0a45, .ref m0a46, .ref m0a47, .int 0, .ref m0a49, .ref m0a50, .ref m0a51, .int 0, .ref m0a53, .ref m0a54, .ref m0a55, .ref m0a56, .ref m0a57, .ref m0a58, .ref m0a59, .ref m0a60, .ref m0a61, .ref m0a62, .ref m0a63, .long 0, .int 0, .int (-9), .ref m0a67, .ref m0a68, .ref m0a69, .ref m0a70, .ref m0a71, .ref m0a72, .ref m0a73, .ref m0a74, .ref m0a75, .long 0])), (m0a1, .inl (cI g, 6, .inl (fun _ => 0))), (m0a5, .inl (cI g, 6, .inl (fun _ => (-9)))), (m0a6, .inl (cI g, 240, .inl (fun _ => 0)))] H) (hD : va_D (laA s) [(x0, .inr (11, [.ref xr, .ref xt, .ref xg, .ref xb, .ref xp, .ref xu, .ref xm, .ref xd, .ref xw, .ref xh, .ref xa, .ref xs, .ref xf, .int 0, .int 0, .long 0, .long 0, .int 0])), (xr, .inr (8, [.int 6, .int 0, .ref xrs, .ref xrp])), (xrs, .inl (cI g, 6, .inl (fun _ => (-1)))), (xrp, .inl (cI g, 240, .inl (fun _ => 0))), (xf, .inl (cI g, 6, .inl (fun _ => 0))), (m0, .inr (12, [.int 0, .ref m0a1, .int 0, .long 0, .int 0, .ref m0a5, .ref m0a6, .ref m0a7, .ref m0a8, .ref m0a9, .int 0, .ref m0a11, .ref m0a12, .ref m0a13, .ref m0a14, .ref m0a15, .ref m0a16, .int 0, .ref m0a18, .ref m0a19, .ref m0a20, .ref m0a21, .ref m0a22, .int 0, .ref m0a24, .ref m0a25, .ref m0a26, .int 0, .ref m0a28, .ref m0a29, .ref m0a30, .ref m0a31, .int 0, .ref m0a33, .ref m0a34, .ref m0a35, .ref m0a36, .ref m0a37, .ref m0a38, .ref m0a39, .ref m0a40, .ref m0a41, .ref m0a42, .ref m0a43, .ref m0a44, .ref m0a45, .ref m0a46, .ref m0a47, .int 0, .ref m0a49, .ref m0a50, .ref m0a51, .int 0, .ref m0a53, .ref m0a54, .ref m0a55, .ref m0a56, .ref m0a57, .ref m0a58, .ref m0a59, .ref m0a60, .ref m0a61, .ref m0a62, .ref m0a63, .long 0, .int 0, .int (-9), .ref m0a67, .ref m0a68, .ref m0a69, .ref m0a70, .ref m0a71, .ref m0a72, .ref m0a73, .ref m0a74, .ref m0a75, .long 0])), (m0a1, .inl (cI g, 6, .inl (fun _ => 0))), (m0a5, .inl (cI g, 6, .inl (fun _ => (-9)))), (m0a6, .inl (cI g, 240, .inl (fun _ => 0)))]) (hS : va_S (laA s) s.heap H locs) (hl : lv_has ls 4 [(3, .int 0), (2, .ref m0), (1, .ref x0), (0, .ref b)]) {Q : State → Prop} (kend : ∀ (H : Heap) (locs : List Loc) (ls : Array Slot), va_S (laA s) s.heap H locs → lv_has ls 4 [(0, .ref b), (3, .int 0)] → W p l e room_1 s m #[Value.ref b] below meth c H locs 141 11384 Q (F0 m 1955 ls [])) : W p l e room_1 s m #[Value.ref b] below meth c H locs 141 11384 Q (F0 m 264 ls []) := by
  have hx := X.1
  have hb := X.2.1
  have hml := X.2.2.1
  have hown := X.2.2.2.1
  have hts := X.2.2.2.2.1
  refine lv_aload_n hx hb dL_law_264 rfl (lv_at hl 2 rfl) ?_
  refine lv_aload_n hx hb dL_law_265 rfl (lv_at hl 3 rfl) ?_
  refine lv_iload_n hx hb dL_law_266 rfl (lv_at hl 0 rfl) ?_
  refine lv_iconst (v := 1) hx hb dL_law_267 (by decide) ?_
  refine lv_iadd hx hb dL_law_268 ?_
  refine lv_topk (v := 1) (by decide) ?_
  refine va_sld hx hb hX hbl hbA hS (by unfold vp_in; decide) dL_law_269 ?_
  refine lv_topk (v := scr 1) rfl ?_
  refine lv_aload_n hx hb dL_law_270 rfl (lv_at hl 3 rfl) ?_
  refine lv_iload_n hx hb dL_law_271 rfl (lv_at hl 0 rfl) ?_
  refine lv_iconst (v := 2) hx hb dL_law_272 (by decide) ?_
  refine lv_iadd hx hb dL_law_273 ?_
  refine lv_topk (v := 2) (by decide) ?_
  refine va_sld hx hb hX hbl hbA hS (by unfold vp_in; decide) dL_law_274 ?_
  refine lv_topk (v := scr 2) rfl ?_
  refine kVi (As := [.int (scr 1), .int (scr 2)]) (rest := []) (wr := [(m0, .inr (12, [.int 0, .ref m0a1, .int 0, .long 0, .int 0, .ref m0a5, .ref m0a6, .ref m0a7, .ref m0a8, .ref m0a9, .int 0, .ref m0a11, .ref m0a12, .ref m0a13, .ref m0a14, .ref m0a15, .ref m0a16, .int 0, .ref m0a18, .ref m0a19, .ref m0a20, .ref m0a21, .ref m0a22, .int 0, .ref m0a24, .ref m0a25, .ref m0a26, .int 0, .ref m0a28, .ref m0a29, .ref m0a30, .ref m0a31, .int 0, .ref m0a33, .ref m0a34, .ref m0a35, .ref m0a36, .ref m0a37, .ref m0a38, .ref m0a39, .ref m0a40, .ref m0a41, .ref m0a42, .ref m0a43, .ref m0a44, .ref m0a45, .ref m0a46, .ref m0a47, .int 0, .ref m0a49, .ref m0a50, .ref m0a51, .int 0, .ref m0a53, .ref m0a54, .ref m0a55, .ref m0a56, .ref m0a57, .ref m0a58, .ref m0a59, .ref m0a60, .ref m0a61, .ref m0a62, .ref m0a63, .long 0, .int 0, .int (-9), .ref m0a67, .ref m0a68, .ref m0a69, .ref m0a70, .ref m0a71, .ref m0a72, .ref m0a73, .ref m0a74, .ref m0a75, .long 0])), (m0a1, .inl (cI g, 6, .inl (fun _ => 0))), (m0a5, .inl (cI g, 6, .inl (fun _ => (-9)))), (m0a6, .inl (cI g, 240, .inl (fun _ => 0)))]) X (c_X11_row l g x0 (scr 1) (scr 2) xr xt xg xb xp xu xm xd xw xh xa xs xf xrs xrp) ok_X11_row okv_X11_row q_513 rfl hK hP hD hS hA hZ hl.1 [0, 1, 2, 3, 4] [5, 6, 7, 8] rfl rfl rfl rfl rfl 0 11 rfl rfl rfl (Nat.le_of_ble_eq_true rfl) ⟨Nat.le_of_ble_eq_true rfl, Nat.le_of_ble_eq_true rfl⟩ dL_law_275 ⟨Nat.le_of_ble_eq_true rfl, Nat.le_of_ble_eq_true rfl⟩ (fun r_1 w1 H locs hw_2 hP hD hS => ?_)
  have hP := pSub hP (ws' := [(m0, .inr (12, [.int 0, .ref m0a1, .int 0, .long 0, .int 0, .ref m0a5, .ref m0a6, .ref m0a7, .ref m0a8, .ref m0a9, .int 0, .ref m0a11, .ref m0a12, .ref m0a13, .ref m0a14, .ref m0a15, .ref m0a16, .int 0, .ref m0a18, .ref m0a19, .ref m0a20, .ref m0a21, .ref m0a22, .int 0, .ref m0a24, .ref m0a25, .ref m0a26, .int 0, .ref m0a28, .ref m0a29, .ref m0a30, .ref m0a31, .int 0, .ref m0a33, .ref m0a34, .ref m0a35, .ref m0a36, .ref m0a37, .ref m0a38, .ref m0a39, .ref m0a40, .ref m0a41, .ref m0a42, .ref m0a43, .ref m0a44, .ref m0a45, .ref m0a46, .ref m0a47, .int 0, .ref m0a49, .ref m0a50, .ref m0a51, .int 0, .ref m0a53, .ref m0a54, .ref m0a55, .ref m0a56, .ref m0a57, .ref m0a58, .ref m0a59, .ref m0a60, .ref m0a61, .ref m0a62, .ref m0a63, .long 0, .int 0, .int (-9), .ref m0a67, .ref m0a68, .ref m0a69, .ref m0a70, .ref m0a71, .ref m0a72, .ref m0a73, .ref m0a74, .ref m0a75, .long 0])), (m0a1, .inl (cI g, 6, .inl (fun _ => 0))), (m0a5, .inl (cI g, 6, .inl (fun _ => (-9)))), (m0a6, .inl (cI g, 240, .inl (fun _ => 0)))]) [0, 1, 2, 3] rfl
  have hD := hD.sub (ws' := [(m0, .inr (12, [.int 0, .ref m0a1, .int 0, .long 0, .int 0, .ref m0a5, .ref m0a6, .ref m0a7, .ref m0a8, .ref m0a9, .int 0, .ref m0a11, .ref m0a12, .ref m0a13, .ref m0a14, .ref m0a15, .ref m0a16, .int 0, .ref m0a18, .ref m0a19, .ref m0a20, .ref m0a21, .ref m0a22, .int 0, .ref m0a24, .ref m0a25, .ref m0a26, .int 0, .ref m0a28, .ref m0a29, .ref m0a30, .ref m0a31, .int 0, .ref m0a33, .ref m0a34, .ref m0a35, .ref m0a36, .ref m0a37, .ref m0a38, .ref m0a39, .ref m0a40, .ref m0a41, .ref m0a42, .ref m0a43, .ref m0a44, .ref m0a45, .ref m0a46, .ref m0a47, .int 0, .ref m0a49, .ref m0a50, .ref m0a51, .int 0, .ref m0a53, .ref m0a54, .ref m0a55, .ref m0a56, .ref m0a57, .ref m0a58, .ref m0a59, .ref m0a60, .ref m0a61, .ref m0a62, .ref m0a63, .long 0, .int 0, .int (-9), .ref m0a67, .ref m0a68, .ref m0a69, .ref m0a70, .ref m0a71, .ref m0a72, .ref m0a73, .ref m0a74, .ref m0a75, .long 0])), (m0a1, .inl (cI g, 6, .inl (fun _ => 0))), (m0a5, .inl (cI g, 6, .inl (fun _ => (-9)))), (m0a6, .inl (cI g, 240, .inl (fun _ => 0)))]) [0, 1, 2, 3] rfl rfl
  refine lv_aload_n hx hb dL_law_278 rfl (lv_at hl 1 rfl) ?_
  refine lv_aload_n hx hb dL_law_279 rfl (lv_at hl 3 rfl) ?_
  refine lv_iload_n hx hb dL_law_280 rfl (lv_at hl 0 rfl) ?_
  refine lv_iconst (v := 1) hx hb dL_law_281 (by decide) ?_
  refine lv_iadd hx hb dL_law_282 ?_
  refine lv_topk (v := 1) (by decide) ?_
  refine va_sld hx hb hX hbl hbA hS (by unfold vp_in; decide) dL_law_283 ?_
  refine lv_topk (v := scr 1) rfl ?_
  refine lv_aload_n hx hb dL_law_284 rfl (lv_at hl 3 rfl) ?_
  refine lv_iload_n hx hb dL_law_285 rfl (lv_at hl 0 rfl) ?_
  refine lv_iconst (v := 2) hx hb dL_law_286 (by decide) ?_
  refine lv_iadd hx hb dL_law_287 ?_
  refine lv_topk (v := 2) (by decide) ?_
  refine va_sld hx hb hX hbl hbA hS (by unfold vp_in; decide) dL_law_288 ?_
  refine lv_topk (v := scr 2) rfl ?_
  refine kVi (As := [.int (scr 1), .int (scr 2)]) (rest := [.int r_1]) (wr := []) X (c_X12_row l g m0 (scr 1) (scr 2) m0a1 m0a5 m0a6 m0a7 m0a8 m0a9 m0a11 m0a12 m0a13 m0a14 m0a15 m0a16 m0a18 m0a19 m0a20 m0a21 m0a22 m0a24 m0a25 m0a26 m0a28 m0a29 m0a30 m0a31 m0a33 m0a34 m0a35 m0a36 m0a37 m0a38 m0a39 m0a40 m0a41 m0a42 m0a43 m0a44 m0a45 m0a46 m0a47 m0a49 m0a50 m0a51 m0a53 m0a54 m0a55 m0a56 m0a57 m0a58 m0a59 m0a60 m0a61 m0a62 m0a63 m0a67 m0a68 m0a69 m0a70 m0a71 m0a72 m0a73 m0a74 m0a75) ok_X12_row okv_X12_row q_1698 rfl hK hP hD hS hA hZ hl.1 [0, 1, 2, 3] [] rfl rfl rfl rfl rfl 0 12 rfl rfl rfl (Nat.le_of_ble_eq_true rfl) ⟨Nat.le_of_ble_eq_true rfl, Nat.le_of_ble_eq_true rfl⟩ dL_law_289 ⟨Nat.le_of_ble_eq_true rfl, Nat.le_of_ble_eq_true rfl⟩ (fun r_3 w1 H locs hw_4 hP hD hS => ?_)
  have hP := pSub hP (ws' := []) [] rfl
  have hD := hD.sub (ws' := []) [] rfl rfl
  refine lv_icmp_eq (tgt := 1955) hx hb dL_law_292 (by decide) (fun _ => ?_) (fun c => absurd (hw_2.trans ((eq_row g x0 (scr 1) (scr 2) xr xt xg xb xp xu xm xd xw xh xa xs xf xrs xrp m0 m0a1 m0a5 m0a6 m0a7 m0a8 m0a9 m0a11 m0a12 m0a13 m0a14 m0a15 m0a16 m0a18 m0a19 m0a20 m0a21 m0a22 m0a24 m0a25 m0a26 m0a28 m0a29 m0a30 m0a31 m0a33 m0a34 m0a35 m0a36 m0a37 m0a38 m0a39 m0a40 m0a41 m0a42 m0a43 m0a44 m0a45 m0a46 m0a47 m0a49 m0a50 m0a51 m0a53 m0a54 m0a55 m0a56 m0a57 m0a58 m0a59 m0a60 m0a61 m0a62 m0a63 m0a67 m0a68 m0a69 m0a70 m0a71 m0a72 m0a73 m0a74 m0a75).trans hw_4.symm)) c)
  exact kend _ _ _ hS (lv_sub hl [3, 0] rfl)
set_option maxHeartbeats 4000000 in
set_option maxRecDepth 100000 in
theorem law_1 (l : Launch) (g : GG) {p : Program} {e : Env} {s : State} {m : MethodId} {below : List Frame} {meth : Method} {c : Code} {b : Nat} {scr : Nat → Int32} (X : En p s m #[Value.ref b] meth c cL_law 4 ret R_law meth.name) (hK : va_K g.1 classes (tyG g) s) (hA : ∀ q, s.heap.size ≤ q → laA s q) (hZ : stS g (laA s) s s.heap) (hX : va_X b 6 scr s s.heap) (hbl : b < s.heap.size) (hbA : ¬ laA s b) (x0 : Nat) (xr : Nat) (xt : Nat) (xg : Nat) (xb : Nat) (xp : Nat) (xu : Nat) (xm : Nat) (xd : Nat) (xw : Nat) (xh : Nat) (xa : Nat) (xs : Nat) (xf : Nat) (xrs : Nat) (xrp : Nat) (m0 : Nat) (m0a1 : Nat) (m0a5 : Nat) (m0a6 : Nat) (m0a7 : Nat) (m0a8 : Nat) (m0a9 : Nat) (m0a11 : Nat) (m0a12 : Nat) (m0a13 : Nat) (m0a14 : Nat) (m0a15 : Nat) (m0a16 : Nat) (m0a18 : Nat) (m0a19 : Nat) (m0a20 : Nat) (m0a21 : Nat) (m0a22 : Nat) (m0a24 : Nat) (m0a25 : Nat) (m0a26 : Nat) (m0a28 : Nat) (m0a29 : Nat) (m0a30 : Nat) (m0a31 : Nat) (m0a33 : Nat) (m0a34 : Nat) (m0a35 : Nat) (m0a36 : Nat) (m0a37 : Nat) (m0a38 : Nat) (m0a39 : Nat) (m0a40 : Nat) (m0a41 : Nat) (m0a42 : Nat) (m0a43 : Nat) (m0a44 : Nat) (m0a45 : Nat) (m0a46 : Nat) (m0a47 : Nat) (m0a49 : Nat) (m0a50 : Nat) (m0a51 : Nat) (m0a53 : Nat) (m0a54 : Nat) (m0a55 : Nat) (m0a56 : Nat) (m0a57 : Nat) (m0a58 : Nat) (m0a59 : Nat) (m0a60 : Nat) (m0a61 : Nat) (m0a62 : Nat) (m0a63 : Nat) (m0a67 : Nat) (m0a68 : Nat) (m0a69 : Nat) (m0a70 : Nat) (m0a71 : Nat) (m0a72 : Nat) (m0a73 : Nat) (m0a74 : Nat) (m0a75 : Nat) {H : Heap} {locs : List Loc} {ls : Array Slot} (hP : va_P g.1 classes [(x0, .inr (11, [.ref xr, .ref xt, .ref xg, .ref xb, .ref xp, .ref xu, .ref xm, .ref xd, .ref xw, .ref xh, .ref xa, .ref xs, .ref xf, .int 0, .int 0, .long 0, .long 0, .int 0])), (xr, .inr (8, [.int 6, .int 0, .ref xrs, .ref xrp])), (xrs, .inl (cI g, 6, .inl (fun _ => (-1)))), (xf, .inl (cI g, 6, .inl (fun _ => 0))), (m0, .inr (12, [.int 0, .ref m0a1, .int 0, .long 0, .int 0, .ref m0a5, .ref m0a6, .ref m0a7, .ref m0a8, .ref m0a9, .int 0, .ref m0a11, .ref m0a12, .ref m0a13, .ref m0a14, .ref m0a15, .ref m0a16, .int 0, .ref m0a18, .ref m0a19, .ref m0a20, .ref m0a21, .ref m0a22, .int 0, .ref m0a24, .ref m0a25, .ref m0a26, .int 0, .ref m0a28, .ref m0a29, .ref m0a30, .ref m0a31, .int 0, .ref m0a33, .ref m0a34, .ref m0a35, .ref m0a36, .ref m0a37, .ref m0a38, .ref m0a39, .ref m0a40, .ref m0a41, .ref m0a42, .ref m0a43, .ref m0a44, .ref m0a45, .ref m0a46, .ref m0a47, .int 0, .ref m0a49, .ref m0a50, .ref m0a51, .int 0, .ref m0a53, .ref m0a54, .ref m0a55, .ref m0a56, .ref m0a57, .ref m0a58, .ref m0a59, .ref m0a60, .ref m0a61, .ref m0a62, .ref m0a63, .long 0, .int 0, .int (-9), .ref m0a67, .ref m0a68, .ref m0a69, .ref m0a70, .ref m0a71, .ref m0a72, .ref m0a73, .ref m0a74, .ref m0a75, .long 0])), (m0a1, .inl (cI g, 6, .inl (fun _ => 0))), (m0a5, .inl (cI g, 6, .inl (fun _ => (-9))))] H) (hD : va_D (laA s) [(x0, .inr (11, [.ref xr, .ref xt, .ref xg, .ref xb, .ref xp, .ref xu, .ref xm, .ref xd, .ref xw, .ref xh, .ref xa, .ref xs, .ref xf, .int 0, .int 0, .long 0, .long 0, .int 0])), (xr, .inr (8, [.int 6, .int 0, .ref xrs, .ref xrp])), (xrs, .inl (cI g, 6, .inl (fun _ => (-1)))), (xf, .inl (cI g, 6, .inl (fun _ => 0))), (m0, .inr (12, [.int 0, .ref m0a1, .int 0, .long 0, .int 0, .ref m0a5, .ref m0a6, .ref m0a7, .ref m0a8, .ref m0a9, .int 0, .ref m0a11, .ref m0a12, .ref m0a13, .ref m0a14, .ref m0a15, .ref m0a16, .int 0, .ref m0a18, .ref m0a19, .ref m0a20, .ref m0a21, .ref m0a22, .int 0, .ref m0a24, .ref m0a25, .ref m0a26, .int 0, .ref m0a28, .ref m0a29, .ref m0a30, .ref m0a31, .int 0, .ref m0a33, .ref m0a34, .ref m0a35, .ref m0a36, .ref m0a37, .ref m0a38, .ref m0a39, .ref m0a40, .ref m0a41, .ref m0a42, .ref m0a43, .ref m0a44, .ref m0a45, .ref m0a46, .ref m0a47, .int 0, .ref m0a49, .ref m0a50, .ref m0a51, .int 0, .ref m0a53, .ref m0a54, .ref m0a55, .ref m0a56, .ref m0a57, .ref m0a58, .ref m0a59, .ref m0a60, .ref m0a61, .ref m0a62, .ref m0a63, .long 0, .int 0, .int (-9), .ref m0a67, .ref m0a68, .ref m0a69, .ref m0a70, .ref m0a71, .ref m0a72, .ref m0a73, .ref m0a74, .ref m0a75, .long 0])), (m0a1, .inl (cI g, 6, .inl (fun _ => 0))), (m0a5, .inl (cI g, 6, .inl (fun _ => (-9))))]) (hS : va_S (laA s) s.heap H locs) (hl : lv_has ls 4 [(3, .int 0), (2, .ref m0), (1, .ref x0), (0, .ref b)]) {Q : State → Prop} (kend : ∀ (H : Heap) (locs : List Loc) (ls : Array Slot), va_S (laA s) s.heap H locs → lv_has ls 4 [(0, .ref b), (3, .int 0)] → W p l e room_1 s m #[Value.ref b] below meth c H locs 141 11384 Q (F0 m 1955 ls [])) : W p l e room_1 s m #[Value.ref b] below meth c H locs 141 11384 Q (F0 m 297 ls []) := by
  have hx := X.1
  have hb := X.2.1
  have hml := X.2.2.1
  have hown := X.2.2.2.1
  have hts := X.2.2.2.2.1
  refine lv_aload_n hx hb dL_law_297 rfl (lv_at hl 2 rfl) ?_
  refine lv_aload_n hx hb dL_law_298 rfl (lv_at hl 3 rfl) ?_
  refine lv_iload_n hx hb dL_law_299 rfl (lv_at hl 0 rfl) ?_
  refine lv_iconst (v := 1) hx hb dL_law_300 (by decide) ?_
  refine lv_iadd hx hb dL_law_301 ?_
  refine lv_topk (v := 1) (by decide) ?_
  refine va_sld hx hb hX hbl hbA hS (by unfold vp_in; decide) dL_law_302 ?_
  refine lv_topk (v := scr 1) rfl ?_
  refine lv_aload_n hx hb dL_law_303 rfl (lv_at hl 3 rfl) ?_
  refine lv_iload_n hx hb dL_law_304 rfl (lv_at hl 0 rfl) ?_
  refine lv_iconst (v := 2) hx hb dL_law_305 (by decide) ?_
  refine lv_iadd hx hb dL_law_306 ?_
  refine lv_topk (v := 2) (by decide) ?_
  refine va_sld hx hb hX hbl hbA hS (by unfold vp_in; decide) dL_law_307 ?_
  refine lv_topk (v := scr 2) rfl ?_
  refine lv_aload_n hx hb dL_law_308 rfl (lv_at hl 3 rfl) ?_
  refine lv_iload_n hx hb dL_law_309 rfl (lv_at hl 0 rfl) ?_
  refine lv_iconst (v := 3) hx hb dL_law_310 (by decide) ?_
  refine lv_iadd hx hb dL_law_311 ?_
  refine lv_topk (v := 3) (by decide) ?_
  refine va_sld hx hb hX hbl hbA hS (by unfold vp_in; decide) dL_law_312 ?_
  refine lv_topk (v := scr 3) rfl ?_
  refine kVi (As := [.int (scr 1), .int (scr 2), .int (scr 3)]) (rest := []) (wr := [(m0, .inr (12, [.int 0, .ref m0a1, .int 0, .long 0, .int 0, .ref m0a5, .ref m0a6, .ref m0a7, .ref m0a8, .ref m0a9, .int 0, .ref m0a11, .ref m0a12, .ref m0a13, .ref m0a14, .ref m0a15, .ref m0a16, .int 0, .ref m0a18, .ref m0a19, .ref m0a20, .ref m0a21, .ref m0a22, .int 0, .ref m0a24, .ref m0a25, .ref m0a26, .int 0, .ref m0a28, .ref m0a29, .ref m0a30, .ref m0a31, .int 0, .ref m0a33, .ref m0a34, .ref m0a35, .ref m0a36, .ref m0a37, .ref m0a38, .ref m0a39, .ref m0a40, .ref m0a41, .ref m0a42, .ref m0a43, .ref m0a44, .ref m0a45, .ref m0a46, .ref m0a47, .int 0, .ref m0a49, .ref m0a50, .ref m0a51, .int 0, .ref m0a53, .ref m0a54, .ref m0a55, .ref m0a56, .ref m0a57, .ref m0a58, .ref m0a59, .ref m0a60, .ref m0a61, .ref m0a62, .ref m0a63, .long 0, .int 0, .int (-9), .ref m0a67, .ref m0a68, .ref m0a69, .ref m0a70, .ref m0a71, .ref m0a72, .ref m0a73, .ref m0a74, .ref m0a75, .long 0])), (m0a1, .inl (cI g, 6, .inl (fun _ => 0))), (m0a5, .inl (cI g, 6, .inl (fun _ => (-9))))]) X (c_X11_lay l g x0 (scr 1) (scr 2) (scr 3) xr xt xg xb xp xu xm xd xw xh xa xs xf xrs xrp) ok_X11_lay okv_X11_lay q_535 rfl hK hP hD hS hA hZ hl.1 [0, 1, 2, 3] [4, 5, 6] rfl rfl rfl rfl rfl 0 11 rfl rfl rfl (Nat.le_of_ble_eq_true rfl) ⟨Nat.le_of_ble_eq_true rfl, Nat.le_of_ble_eq_true rfl⟩ dL_law_313 ⟨Nat.le_of_ble_eq_true rfl, Nat.le_of_ble_eq_true rfl⟩ (fun r_1 w1 H locs hw_2 hP hD hS => ?_)
  have hP := pSub hP (ws' := [(m0, .inr (12, [.int 0, .ref m0a1, .int 0, .long 0, .int 0, .ref m0a5, .ref m0a6, .ref m0a7, .ref m0a8, .ref m0a9, .int 0, .ref m0a11, .ref m0a12, .ref m0a13, .ref m0a14, .ref m0a15, .ref m0a16, .int 0, .ref m0a18, .ref m0a19, .ref m0a20, .ref m0a21, .ref m0a22, .int 0, .ref m0a24, .ref m0a25, .ref m0a26, .int 0, .ref m0a28, .ref m0a29, .ref m0a30, .ref m0a31, .int 0, .ref m0a33, .ref m0a34, .ref m0a35, .ref m0a36, .ref m0a37, .ref m0a38, .ref m0a39, .ref m0a40, .ref m0a41, .ref m0a42, .ref m0a43, .ref m0a44, .ref m0a45, .ref m0a46, .ref m0a47, .int 0, .ref m0a49, .ref m0a50, .ref m0a51, .int 0, .ref m0a53, .ref m0a54, .ref m0a55, .ref m0a56, .ref m0a57, .ref m0a58, .ref m0a59, .ref m0a60, .ref m0a61, .ref m0a62, .ref m0a63, .long 0, .int 0, .int (-9), .ref m0a67, .ref m0a68, .ref m0a69, .ref m0a70, .ref m0a71, .ref m0a72, .ref m0a73, .ref m0a74, .ref m0a75, .long 0])), (m0a1, .inl (cI g, 6, .inl (fun _ => 0))), (m0a5, .inl (cI g, 6, .inl (fun _ => (-9))))]) [0, 1, 2] rfl
  have hD := hD.sub (ws' := [(m0, .inr (12, [.int 0, .ref m0a1, .int 0, .long 0, .int 0, .ref m0a5, .ref m0a6, .ref m0a7, .ref m0a8, .ref m0a9, .int 0, .ref m0a11, .ref m0a12, .ref m0a13, .ref m0a14, .ref m0a15, .ref m0a16, .int 0, .ref m0a18, .ref m0a19, .ref m0a20, .ref m0a21, .ref m0a22, .int 0, .ref m0a24, .ref m0a25, .ref m0a26, .int 0, .ref m0a28, .ref m0a29, .ref m0a30, .ref m0a31, .int 0, .ref m0a33, .ref m0a34, .ref m0a35, .ref m0a36, .ref m0a37, .ref m0a38, .ref m0a39, .ref m0a40, .ref m0a41, .ref m0a42, .ref m0a43, .ref m0a44, .ref m0a45, .ref m0a46, .ref m0a47, .int 0, .ref m0a49, .ref m0a50, .ref m0a51, .int 0, .ref m0a53, .ref m0a54, .ref m0a55, .ref m0a56, .ref m0a57, .ref m0a58, .ref m0a59, .ref m0a60, .ref m0a61, .ref m0a62, .ref m0a63, .long 0, .int 0, .int (-9), .ref m0a67, .ref m0a68, .ref m0a69, .ref m0a70, .ref m0a71, .ref m0a72, .ref m0a73, .ref m0a74, .ref m0a75, .long 0])), (m0a1, .inl (cI g, 6, .inl (fun _ => 0))), (m0a5, .inl (cI g, 6, .inl (fun _ => (-9))))]) [0, 1, 2] rfl rfl
  refine lv_aload_n hx hb dL_law_316 rfl (lv_at hl 1 rfl) ?_
  refine lv_aload_n hx hb dL_law_317 rfl (lv_at hl 3 rfl) ?_
  refine lv_iload_n hx hb dL_law_318 rfl (lv_at hl 0 rfl) ?_
  refine lv_iconst (v := 1) hx hb dL_law_319 (by decide) ?_
  refine lv_iadd hx hb dL_law_320 ?_
  refine lv_topk (v := 1) (by decide) ?_
  refine va_sld hx hb hX hbl hbA hS (by unfold vp_in; decide) dL_law_321 ?_
  refine lv_topk (v := scr 1) rfl ?_
  refine lv_aload_n hx hb dL_law_322 rfl (lv_at hl 3 rfl) ?_
  refine lv_iload_n hx hb dL_law_323 rfl (lv_at hl 0 rfl) ?_
  refine lv_iconst (v := 2) hx hb dL_law_324 (by decide) ?_
  refine lv_iadd hx hb dL_law_325 ?_
  refine lv_topk (v := 2) (by decide) ?_
  refine va_sld hx hb hX hbl hbA hS (by unfold vp_in; decide) dL_law_326 ?_
  refine lv_topk (v := scr 2) rfl ?_
  refine lv_aload_n hx hb dL_law_327 rfl (lv_at hl 3 rfl) ?_
  refine lv_iload_n hx hb dL_law_328 rfl (lv_at hl 0 rfl) ?_
  refine lv_iconst (v := 3) hx hb dL_law_329 (by decide) ?_
  refine lv_iadd hx hb dL_law_330 ?_
  refine lv_topk (v := 3) (by decide) ?_
  refine va_sld hx hb hX hbl hbA hS (by unfold vp_in; decide) dL_law_331 ?_
  refine lv_topk (v := scr 3) rfl ?_
  refine kVi (As := [.int (scr 1), .int (scr 2), .int (scr 3)]) (rest := [.int r_1]) (wr := []) X (c_X12_lay l g m0 (scr 1) (scr 2) (scr 3) m0a1 m0a5 m0a6 m0a7 m0a8 m0a9 m0a11 m0a12 m0a13 m0a14 m0a15 m0a16 m0a18 m0a19 m0a20 m0a21 m0a22 m0a24 m0a25 m0a26 m0a28 m0a29 m0a30 m0a31 m0a33 m0a34 m0a35 m0a36 m0a37 m0a38 m0a39 m0a40 m0a41 m0a42 m0a43 m0a44 m0a45 m0a46 m0a47 m0a49 m0a50 m0a51 m0a53 m0a54 m0a55 m0a56 m0a57 m0a58 m0a59 m0a60 m0a61 m0a62 m0a63 m0a67 m0a68 m0a69 m0a70 m0a71 m0a72 m0a73 m0a74 m0a75) ok_X12_lay okv_X12_lay q_1712 rfl hK hP hD hS hA hZ hl.1 [0, 1, 2] [] rfl rfl rfl rfl rfl 0 12 rfl rfl rfl (Nat.le_of_ble_eq_true rfl) ⟨Nat.le_of_ble_eq_true rfl, Nat.le_of_ble_eq_true rfl⟩ dL_law_332 ⟨Nat.le_of_ble_eq_true rfl, Nat.le_of_ble_eq_true rfl⟩ (fun r_3 w1 H locs hw_4 hP hD hS => ?_)
  have hP := pSub hP (ws' := []) [] rfl
  have hD := hD.sub (ws' := []) [] rfl rfl
  refine lv_icmp_eq (tgt := 1955) hx hb dL_law_335 (by decide) (fun _ => ?_) (fun c => absurd (hw_2.trans ((eq_lay g x0 (scr 1) (scr 2) (scr 3) xr xt xg xb xp xu xm xd xw xh xa xs xf xrs xrp m0 m0a1 m0a5 m0a6 m0a7 m0a8 m0a9 m0a11 m0a12 m0a13 m0a14 m0a15 m0a16 m0a18 m0a19 m0a20 m0a21 m0a22 m0a24 m0a25 m0a26 m0a28 m0a29 m0a30 m0a31 m0a33 m0a34 m0a35 m0a36 m0a37 m0a38 m0a39 m0a40 m0a41 m0a42 m0a43 m0a44 m0a45 m0a46 m0a47 m0a49 m0a50 m0a51 m0a53 m0a54 m0a55 m0a56 m0a57 m0a58 m0a59 m0a60 m0a61 m0a62 m0a63 m0a67 m0a68 m0a69 m0a70 m0a71 m0a72 m0a73 m0a74 m0a75).trans hw_4.symm)) c)
  exact kend _ _ _ hS (lv_sub hl [3, 0] rfl)
set_option maxHeartbeats 4000000 in
set_option maxRecDepth 100000 in
theorem law_2 (l : Launch) (g : GG) {p : Program} {e : Env} {s : State} {m : MethodId} {below : List Frame} {meth : Method} {c : Code} {b : Nat} {scr : Nat → Int32} (X : En p s m #[Value.ref b] meth c cL_law 4 ret R_law meth.name) (hK : va_K g.1 classes (tyG g) s) (hA : ∀ q, s.heap.size ≤ q → laA s q) (hZ : stS g (laA s) s s.heap) (hX : va_X b 6 scr s s.heap) (hbl : b < s.heap.size) (hbA : ¬ laA s b) (x0 : Nat) (xr : Nat) (xt : Nat) (xg : Nat) (xb : Nat) (xp : Nat) (xu : Nat) (xm : Nat) (xd : Nat) (xw : Nat) (xh : Nat) (xa : Nat) (xs : Nat) (xf : Nat) (xrs : Nat) (xrp : Nat) (m0 : Nat) (m0a1 : Nat) (m0a5 : Nat) (m0a6 : Nat) (m0a7 : Nat) (m0a8 : Nat) (m0a9 : Nat) (m0a11 : Nat) (m0a12 : Nat) (m0a13 : Nat) (m0a14 : Nat) (m0a15 : Nat) (m0a16 : Nat) (m0a18 : Nat) (m0a19 : Nat) (m0a20 : Nat) (m0a21 : Nat) (m0a22 : Nat) (m0a24 : Nat) (m0a25 : Nat) (m0a26 : Nat) (m0a28 : Nat) (m0a29 : Nat) (m0a30 : Nat) (m0a31 : Nat) (m0a33 : Nat) (m0a34 : Nat) (m0a35 : Nat) (m0a36 : Nat) (m0a37 : Nat) (m0a38 : Nat) (m0a39 : Nat) (m0a40 : Nat) (m0a41 : Nat) (m0a42 : Nat) (m0a43 : Nat) (m0a44 : Nat) (m0a45 : Nat) (m0a46 : Nat) (m0a47 : Nat) (m0a49 : Nat) (m0a50 : Nat) (m0a51 : Nat) (m0a53 : Nat) (m0a54 : Nat) (m0a55 : Nat) (m0a56 : Nat) (m0a57 : Nat) (m0a58 : Nat) (m0a59 : Nat) (m0a60 : Nat) (m0a61 : Nat) (m0a62 : Nat) (m0a63 : Nat) (m0a67 : Nat) (m0a68 : Nat) (m0a69 : Nat) (m0a70 : Nat) (m0a71 : Nat) (m0a72 : Nat) (m0a73 : Nat) (m0a74 : Nat) (m0a75 : Nat) {H : Heap} {locs : List Loc} {ls : Array Slot} (hP : va_P g.1 classes [(x0, .inr (11, [.ref xr, .ref xt, .ref xg, .ref xb, .ref xp, .ref xu, .ref xm, .ref xd, .ref xw, .ref xh, .ref xa, .ref xs, .ref xf, .int 0, .int 0, .long 0, .long 0, .int 0])), (xr, .inr (8, [.int 6, .int 0, .ref xrs, .ref xrp])), (xrs, .inl (cI g, 6, .inl (fun _ => (-1)))), (xf, .inl (cI g, 6, .inl (fun _ => 0))), (m0, .inr (12, [.int 0, .ref m0a1, .int 0, .long 0, .int 0, .ref m0a5, .ref m0a6, .ref m0a7, .ref m0a8, .ref m0a9, .int 0, .ref m0a11, .ref m0a12, .ref m0a13, .ref m0a14, .ref m0a15, .ref m0a16, .int 0, .ref m0a18, .ref m0a19, .ref m0a20, .ref m0a21, .ref m0a22, .int 0, .ref m0a24, .ref m0a25, .ref m0a26, .int 0, .ref m0a28, .ref m0a29, .ref m0a30, .ref m0a31, .int 0, .ref m0a33, .ref m0a34, .ref m0a35, .ref m0a36, .ref m0a37, .ref m0a38, .ref m0a39, .ref m0a40, .ref m0a41, .ref m0a42, .ref m0a43, .ref m0a44, .ref m0a45, .ref m0a46, .ref m0a47, .int 0, .ref m0a49, .ref m0a50, .ref m0a51, .int 0, .ref m0a53, .ref m0a54, .ref m0a55, .ref m0a56, .ref m0a57, .ref m0a58, .ref m0a59, .ref m0a60, .ref m0a61, .ref m0a62, .ref m0a63, .long 0, .int 0, .int (-9), .ref m0a67, .ref m0a68, .ref m0a69, .ref m0a70, .ref m0a71, .ref m0a72, .ref m0a73, .ref m0a74, .ref m0a75, .long 0])), (m0a1, .inl (cI g, 6, .inl (fun _ => 0))), (m0a5, .inl (cI g, 6, .inl (fun _ => (-9))))] H) (hD : va_D (laA s) [(x0, .inr (11, [.ref xr, .ref xt, .ref xg, .ref xb, .ref xp, .ref xu, .ref xm, .ref xd, .ref xw, .ref xh, .ref xa, .ref xs, .ref xf, .int 0, .int 0, .long 0, .long 0, .int 0])), (xr, .inr (8, [.int 6, .int 0, .ref xrs, .ref xrp])), (xrs, .inl (cI g, 6, .inl (fun _ => (-1)))), (xf, .inl (cI g, 6, .inl (fun _ => 0))), (m0, .inr (12, [.int 0, .ref m0a1, .int 0, .long 0, .int 0, .ref m0a5, .ref m0a6, .ref m0a7, .ref m0a8, .ref m0a9, .int 0, .ref m0a11, .ref m0a12, .ref m0a13, .ref m0a14, .ref m0a15, .ref m0a16, .int 0, .ref m0a18, .ref m0a19, .ref m0a20, .ref m0a21, .ref m0a22, .int 0, .ref m0a24, .ref m0a25, .ref m0a26, .int 0, .ref m0a28, .ref m0a29, .ref m0a30, .ref m0a31, .int 0, .ref m0a33, .ref m0a34, .ref m0a35, .ref m0a36, .ref m0a37, .ref m0a38, .ref m0a39, .ref m0a40, .ref m0a41, .ref m0a42, .ref m0a43, .ref m0a44, .ref m0a45, .ref m0a46, .ref m0a47, .int 0, .ref m0a49, .ref m0a50, .ref m0a51, .int 0, .ref m0a53, .ref m0a54, .ref m0a55, .ref m0a56, .ref m0a57, .ref m0a58, .ref m0a59, .ref m0a60, .ref m0a61, .ref m0a62, .ref m0a63, .long 0, .int 0, .int (-9), .ref m0a67, .ref m0a68, .ref m0a69, .ref m0a70, .ref m0a71, .ref m0a72, .ref m0a73, .ref m0a74, .ref m0a75, .long 0])), (m0a1, .inl (cI g, 6, .inl (fun _ => 0))), (m0a5, .inl (cI g, 6, .inl (fun _ => (-9))))]) (hS : va_S (laA s) s.heap H locs) (hl : lv_has ls 4 [(3, .int 0), (2, .ref m0), (1, .ref x0), (0, .ref b)]) {Q : State → Prop} (kend : ∀ (H : Heap) (locs : List Loc) (ls : Array Slot), va_S (laA s) s.heap H locs → lv_has ls 4 [(0, .ref b), (3, .int 0)] → W p l e room_1 s m #[Value.ref b] below meth c H locs 141 11384 Q (F0 m 1955 ls [])) : W p l e room_1 s m #[Value.ref b] below meth c H locs 141 11384 Q (F0 m 340 ls []) := by
  have hx := X.1
  have hb := X.2.1
  have hml := X.2.2.1
  have hown := X.2.2.2.1
  have hts := X.2.2.2.2.1
  refine lv_aload_n hx hb dL_law_340 rfl (lv_at hl 2 rfl) ?_
  refine lv_aload_n hx hb dL_law_341 rfl (lv_at hl 3 rfl) ?_
  refine lv_iload_n hx hb dL_law_342 rfl (lv_at hl 0 rfl) ?_
  refine lv_iconst (v := 1) hx hb dL_law_343 (by decide) ?_
  refine lv_iadd hx hb dL_law_344 ?_
  refine lv_topk (v := 1) (by decide) ?_
  refine va_sld hx hb hX hbl hbA hS (by unfold vp_in; decide) dL_law_345 ?_
  refine lv_topk (v := scr 1) rfl ?_
  refine kVi (As := [.int (scr 1)]) (rest := []) (wr := [(m0, .inr (12, [.int 0, .ref m0a1, .int 0, .long 0, .int 0, .ref m0a5, .ref m0a6, .ref m0a7, .ref m0a8, .ref m0a9, .int 0, .ref m0a11, .ref m0a12, .ref m0a13, .ref m0a14, .ref m0a15, .ref m0a16, .int 0, .ref m0a18, .ref m0a19, .ref m0a20, .ref m0a21, .ref m0a22, .int 0, .ref m0a24, .ref m0a25, .ref m0a26, .int 0, .ref m0a28, .ref m0a29, .ref m0a30, .ref m0a31, .int 0, .ref m0a33, .ref m0a34, .ref m0a35, .ref m0a36, .ref m0a37, .ref m0a38, .ref m0a39, .ref m0a40, .ref m0a41, .ref m0a42, .ref m0a43, .ref m0a44, .ref m0a45, .ref m0a46, .ref m0a47, .int 0, .ref m0a49, .ref m0a50, .ref m0a51, .int 0, .ref m0a53, .ref m0a54, .ref m0a55, .ref m0a56, .ref m0a57, .ref m0a58, .ref m0a59, .ref m0a60, .ref m0a61, .ref m0a62, .ref m0a63, .long 0, .int 0, .int (-9), .ref m0a67, .ref m0a68, .ref m0a69, .ref m0a70, .ref m0a71, .ref m0a72, .ref m0a73, .ref m0a74, .ref m0a75, .long 0])), (m0a1, .inl (cI g, 6, .inl (fun _ => 0))), (m0a5, .inl (cI g, 6, .inl (fun _ => (-9))))]) X (c_X11_tear l g x0 (scr 1) xr xt xg xb xp xu xm xd xw xh xa xs xf xrs xrp) ok_X11_tear okv_X11_tear q_555 rfl hK hP hD hS hA hZ hl.1 [0, 1, 2, 3] [4, 5, 6] rfl rfl rfl rfl rfl 0 11 rfl rfl rfl (Nat.le_of_ble_eq_true rfl) ⟨Nat.le_of_ble_eq_true rfl, Nat.le_of_ble_eq_true rfl⟩ dL_law_346 ⟨Nat.le_of_ble_eq_true rfl, Nat.le_of_ble_eq_true rfl⟩ (fun r_1 w1 H locs hw_2 hP hD hS => ?_)
  have hP := pSub hP (ws' := [(m0, .inr (12, [.int 0, .ref m0a1, .int 0, .long 0, .int 0, .ref m0a5, .ref m0a6, .ref m0a7, .ref m0a8, .ref m0a9, .int 0, .ref m0a11, .ref m0a12, .ref m0a13, .ref m0a14, .ref m0a15, .ref m0a16, .int 0, .ref m0a18, .ref m0a19, .ref m0a20, .ref m0a21, .ref m0a22, .int 0, .ref m0a24, .ref m0a25, .ref m0a26, .int 0, .ref m0a28, .ref m0a29, .ref m0a30, .ref m0a31, .int 0, .ref m0a33, .ref m0a34, .ref m0a35, .ref m0a36, .ref m0a37, .ref m0a38, .ref m0a39, .ref m0a40, .ref m0a41, .ref m0a42, .ref m0a43, .ref m0a44, .ref m0a45, .ref m0a46, .ref m0a47, .int 0, .ref m0a49, .ref m0a50, .ref m0a51, .int 0, .ref m0a53, .ref m0a54, .ref m0a55, .ref m0a56, .ref m0a57, .ref m0a58, .ref m0a59, .ref m0a60, .ref m0a61, .ref m0a62, .ref m0a63, .long 0, .int 0, .int (-9), .ref m0a67, .ref m0a68, .ref m0a69, .ref m0a70, .ref m0a71, .ref m0a72, .ref m0a73, .ref m0a74, .ref m0a75, .long 0])), (m0a1, .inl (cI g, 6, .inl (fun _ => 0))), (m0a5, .inl (cI g, 6, .inl (fun _ => (-9))))]) [0, 1, 2] rfl
  have hD := hD.sub (ws' := [(m0, .inr (12, [.int 0, .ref m0a1, .int 0, .long 0, .int 0, .ref m0a5, .ref m0a6, .ref m0a7, .ref m0a8, .ref m0a9, .int 0, .ref m0a11, .ref m0a12, .ref m0a13, .ref m0a14, .ref m0a15, .ref m0a16, .int 0, .ref m0a18, .ref m0a19, .ref m0a20, .ref m0a21, .ref m0a22, .int 0, .ref m0a24, .ref m0a25, .ref m0a26, .int 0, .ref m0a28, .ref m0a29, .ref m0a30, .ref m0a31, .int 0, .ref m0a33, .ref m0a34, .ref m0a35, .ref m0a36, .ref m0a37, .ref m0a38, .ref m0a39, .ref m0a40, .ref m0a41, .ref m0a42, .ref m0a43, .ref m0a44, .ref m0a45, .ref m0a46, .ref m0a47, .int 0, .ref m0a49, .ref m0a50, .ref m0a51, .int 0, .ref m0a53, .ref m0a54, .ref m0a55, .ref m0a56, .ref m0a57, .ref m0a58, .ref m0a59, .ref m0a60, .ref m0a61, .ref m0a62, .ref m0a63, .long 0, .int 0, .int (-9), .ref m0a67, .ref m0a68, .ref m0a69, .ref m0a70, .ref m0a71, .ref m0a72, .ref m0a73, .ref m0a74, .ref m0a75, .long 0])), (m0a1, .inl (cI g, 6, .inl (fun _ => 0))), (m0a5, .inl (cI g, 6, .inl (fun _ => (-9))))]) [0, 1, 2] rfl rfl
  refine lv_aload_n hx hb dL_law_349 rfl (lv_at hl 1 rfl) ?_
  refine lv_aload_n hx hb dL_law_350 rfl (lv_at hl 3 rfl) ?_
  refine lv_iload_n hx hb dL_law_351 rfl (lv_at hl 0 rfl) ?_
  refine lv_iconst (v := 1) hx hb dL_law_352 (by decide) ?_
  refine lv_iadd hx hb dL_law_353 ?_
  refine lv_topk (v := 1) (by decide) ?_
  refine va_sld hx hb hX hbl hbA hS (by unfold vp_in; decide) dL_law_354 ?_
  refine lv_topk (v := scr 1) rfl ?_
  refine kVi (As := [.int (scr 1)]) (rest := [.int r_1]) (wr := []) X (c_X12_tear l g m0 (scr 1) m0a1 m0a5 m0a6 m0a7 m0a8 m0a9 m0a11 m0a12 m0a13 m0a14 m0a15 m0a16 m0a18 m0a19 m0a20 m0a21 m0a22 m0a24 m0a25 m0a26 m0a28 m0a29 m0a30 m0a31 m0a33 m0a34 m0a35 m0a36 m0a37 m0a38 m0a39 m0a40 m0a41 m0a42 m0a43 m0a44 m0a45 m0a46 m0a47 m0a49 m0a50 m0a51 m0a53 m0a54 m0a55 m0a56 m0a57 m0a58 m0a59 m0a60 m0a61 m0a62 m0a63 m0a67 m0a68 m0a69 m0a70 m0a71 m0a72 m0a73 m0a74 m0a75) ok_X12_tear okv_X12_tear q_1720 rfl hK hP hD hS hA hZ hl.1 [0, 1, 2] [] rfl rfl rfl rfl rfl 0 12 rfl rfl rfl (Nat.le_of_ble_eq_true rfl) ⟨Nat.le_of_ble_eq_true rfl, Nat.le_of_ble_eq_true rfl⟩ dL_law_355 ⟨Nat.le_of_ble_eq_true rfl, Nat.le_of_ble_eq_true rfl⟩ (fun r_3 w1 H locs hw_4 hP hD hS => ?_)
  have hP := pSub hP (ws' := []) [] rfl
  have hD := hD.sub (ws' := []) [] rfl rfl
  refine lv_icmp_eq (tgt := 1955) hx hb dL_law_358 (by decide) (fun _ => ?_) (fun c => absurd (hw_2.trans ((eq_tear g x0 (scr 1) xr xt xg xb xp xu xm xd xw xh xa xs xf xrs xrp m0 m0a1 m0a5 m0a6 m0a7 m0a8 m0a9 m0a11 m0a12 m0a13 m0a14 m0a15 m0a16 m0a18 m0a19 m0a20 m0a21 m0a22 m0a24 m0a25 m0a26 m0a28 m0a29 m0a30 m0a31 m0a33 m0a34 m0a35 m0a36 m0a37 m0a38 m0a39 m0a40 m0a41 m0a42 m0a43 m0a44 m0a45 m0a46 m0a47 m0a49 m0a50 m0a51 m0a53 m0a54 m0a55 m0a56 m0a57 m0a58 m0a59 m0a60 m0a61 m0a62 m0a63 m0a67 m0a68 m0a69 m0a70 m0a71 m0a72 m0a73 m0a74 m0a75).trans hw_4.symm)) c)
  exact kend _ _ _ hS (lv_sub hl [3, 0] rfl)
set_option maxHeartbeats 4000000 in
set_option maxRecDepth 100000 in
theorem law_3 (l : Launch) (g : GG) {p : Program} {e : Env} {s : State} {m : MethodId} {below : List Frame} {meth : Method} {c : Code} {b : Nat} {scr : Nat → Int32} (X : En p s m #[Value.ref b] meth c cL_law 4 ret R_law meth.name) (hK : va_K g.1 classes (tyG g) s) (hA : ∀ q, s.heap.size ≤ q → laA s q) (hZ : stS g (laA s) s s.heap) (hX : va_X b 6 scr s s.heap) (hbl : b < s.heap.size) (hbA : ¬ laA s b) (x0 : Nat) (xr : Nat) (xt : Nat) (xg : Nat) (xb : Nat) (xp : Nat) (xu : Nat) (xm : Nat) (xd : Nat) (xw : Nat) (xh : Nat) (xa : Nat) (xs : Nat) (xf : Nat) (xrs : Nat) (xrp : Nat) (m0 : Nat) (m0a1 : Nat) (m0a5 : Nat) (m0a6 : Nat) (m0a7 : Nat) (m0a8 : Nat) (m0a9 : Nat) (m0a11 : Nat) (m0a12 : Nat) (m0a13 : Nat) (m0a14 : Nat) (m0a15 : Nat) (m0a16 : Nat) (m0a18 : Nat) (m0a19 : Nat) (m0a20 : Nat) (m0a21 : Nat) (m0a22 : Nat) (m0a24 : Nat) (m0a25 : Nat) (m0a26 : Nat) (m0a28 : Nat) (m0a29 : Nat) (m0a30 : Nat) (m0a31 : Nat) (m0a33 : Nat) (m0a34 : Nat) (m0a35 : Nat) (m0a36 : Nat) (m0a37 : Nat) (m0a38 : Nat) (m0a39 : Nat) (m0a40 : Nat) (m0a41 : Nat) (m0a42 : Nat) (m0a43 : Nat) (m0a44 : Nat) (m0a45 : Nat) (m0a46 : Nat) (m0a47 : Nat) (m0a49 : Nat) (m0a50 : Nat) (m0a51 : Nat) (m0a53 : Nat) (m0a54 : Nat) (m0a55 : Nat) (m0a56 : Nat) (m0a57 : Nat) (m0a58 : Nat) (m0a59 : Nat) (m0a60 : Nat) (m0a61 : Nat) (m0a62 : Nat) (m0a63 : Nat) (m0a67 : Nat) (m0a68 : Nat) (m0a69 : Nat) (m0a70 : Nat) (m0a71 : Nat) (m0a72 : Nat) (m0a73 : Nat) (m0a74 : Nat) (m0a75 : Nat) {H : Heap} {locs : List Loc} {ls : Array Slot} (hP : va_P g.1 classes [(x0, .inr (11, [.ref xr, .ref xt, .ref xg, .ref xb, .ref xp, .ref xu, .ref xm, .ref xd, .ref xw, .ref xh, .ref xa, .ref xs, .ref xf, .int 0, .int 0, .long 0, .long 0, .int 0])), (xr, .inr (8, [.int 6, .int 0, .ref xrs, .ref xrp])), (xrs, .inl (cI g, 6, .inl (fun _ => (-1)))), (xf, .inl (cI g, 6, .inl (fun _ => 0))), (m0, .inr (12, [.int 0, .ref m0a1, .int 0, .long 0, .int 0, .ref m0a5, .ref m0a6, .ref m0a7, .ref m0a8, .ref m0a9, .int 0, .ref m0a11, .ref m0a12, .ref m0a13, .ref m0a14, .ref m0a15, .ref m0a16, .int 0, .ref m0a18, .ref m0a19, .ref m0a20, .ref m0a21, .ref m0a22, .int 0, .ref m0a24, .ref m0a25, .ref m0a26, .int 0, .ref m0a28, .ref m0a29, .ref m0a30, .ref m0a31, .int 0, .ref m0a33, .ref m0a34, .ref m0a35, .ref m0a36, .ref m0a37, .ref m0a38, .ref m0a39, .ref m0a40, .ref m0a41, .ref m0a42, .ref m0a43, .ref m0a44, .ref m0a45, .ref m0a46, .ref m0a47, .int 0, .ref m0a49, .ref m0a50, .ref m0a51, .int 0, .ref m0a53, .ref m0a54, .ref m0a55, .ref m0a56, .ref m0a57, .ref m0a58, .ref m0a59, .ref m0a60, .ref m0a61, .ref m0a62, .ref m0a63, .long 0, .int 0, .int (-9), .ref m0a67, .ref m0a68, .ref m0a69, .ref m0a70, .ref m0a71, .ref m0a72, .ref m0a73, .ref m0a74, .ref m0a75, .long 0])), (m0a1, .inl (cI g, 6, .inl (fun _ => 0))), (m0a5, .inl (cI g, 6, .inl (fun _ => (-9))))] H) (hD : va_D (laA s) [(x0, .inr (11, [.ref xr, .ref xt, .ref xg, .ref xb, .ref xp, .ref xu, .ref xm, .ref xd, .ref xw, .ref xh, .ref xa, .ref xs, .ref xf, .int 0, .int 0, .long 0, .long 0, .int 0])), (xr, .inr (8, [.int 6, .int 0, .ref xrs, .ref xrp])), (xrs, .inl (cI g, 6, .inl (fun _ => (-1)))), (xf, .inl (cI g, 6, .inl (fun _ => 0))), (m0, .inr (12, [.int 0, .ref m0a1, .int 0, .long 0, .int 0, .ref m0a5, .ref m0a6, .ref m0a7, .ref m0a8, .ref m0a9, .int 0, .ref m0a11, .ref m0a12, .ref m0a13, .ref m0a14, .ref m0a15, .ref m0a16, .int 0, .ref m0a18, .ref m0a19, .ref m0a20, .ref m0a21, .ref m0a22, .int 0, .ref m0a24, .ref m0a25, .ref m0a26, .int 0, .ref m0a28, .ref m0a29, .ref m0a30, .ref m0a31, .int 0, .ref m0a33, .ref m0a34, .ref m0a35, .ref m0a36, .ref m0a37, .ref m0a38, .ref m0a39, .ref m0a40, .ref m0a41, .ref m0a42, .ref m0a43, .ref m0a44, .ref m0a45, .ref m0a46, .ref m0a47, .int 0, .ref m0a49, .ref m0a50, .ref m0a51, .int 0, .ref m0a53, .ref m0a54, .ref m0a55, .ref m0a56, .ref m0a57, .ref m0a58, .ref m0a59, .ref m0a60, .ref m0a61, .ref m0a62, .ref m0a63, .long 0, .int 0, .int (-9), .ref m0a67, .ref m0a68, .ref m0a69, .ref m0a70, .ref m0a71, .ref m0a72, .ref m0a73, .ref m0a74, .ref m0a75, .long 0])), (m0a1, .inl (cI g, 6, .inl (fun _ => 0))), (m0a5, .inl (cI g, 6, .inl (fun _ => (-9))))]) (hS : va_S (laA s) s.heap H locs) (hl : lv_has ls 4 [(3, .int 0), (2, .ref m0), (1, .ref x0), (0, .ref b)]) {Q : State → Prop} (kend : ∀ (H : Heap) (locs : List Loc) (ls : Array Slot), va_S (laA s) s.heap H locs → lv_has ls 4 [(0, .ref b), (3, .int 0)] → W p l e room_1 s m #[Value.ref b] below meth c H locs 141 11384 Q (F0 m 1955 ls [])) : W p l e room_1 s m #[Value.ref b] below meth c H locs 141 11384 Q (F0 m 363 ls []) := by
  have hx := X.1
  have hb := X.2.1
  have hml := X.2.2.1
  have hown := X.2.2.2.1
  have hts := X.2.2.2.2.1
  refine lv_aload_n hx hb dL_law_363 rfl (lv_at hl 2 rfl) ?_
  refine lv_aload_n hx hb dL_law_364 rfl (lv_at hl 3 rfl) ?_
  refine lv_iload_n hx hb dL_law_365 rfl (lv_at hl 0 rfl) ?_
  refine lv_iconst (v := 1) hx hb dL_law_366 (by decide) ?_
  refine lv_iadd hx hb dL_law_367 ?_
  refine lv_topk (v := 1) (by decide) ?_
  refine va_sld hx hb hX hbl hbA hS (by unfold vp_in; decide) dL_law_368 ?_
  refine lv_topk (v := scr 1) rfl ?_
  refine lv_aload_n hx hb dL_law_369 rfl (lv_at hl 3 rfl) ?_
  refine lv_iload_n hx hb dL_law_370 rfl (lv_at hl 0 rfl) ?_
  refine lv_iconst (v := 2) hx hb dL_law_371 (by decide) ?_
  refine lv_iadd hx hb dL_law_372 ?_
  refine lv_topk (v := 2) (by decide) ?_
  refine va_sld hx hb hX hbl hbA hS (by unfold vp_in; decide) dL_law_373 ?_
  refine lv_topk (v := scr 2) rfl ?_
  refine lv_aload_n hx hb dL_law_374 rfl (lv_at hl 3 rfl) ?_
  refine lv_iload_n hx hb dL_law_375 rfl (lv_at hl 0 rfl) ?_
  refine lv_iconst (v := 3) hx hb dL_law_376 (by decide) ?_
  refine lv_iadd hx hb dL_law_377 ?_
  refine lv_topk (v := 3) (by decide) ?_
  refine va_sld hx hb hX hbl hbA hS (by unfold vp_in; decide) dL_law_378 ?_
  refine lv_topk (v := scr 3) rfl ?_
  refine lv_aload_n hx hb dL_law_379 rfl (lv_at hl 3 rfl) ?_
  refine lv_iload_n hx hb dL_law_380 rfl (lv_at hl 0 rfl) ?_
  refine lv_iconst (v := 4) hx hb dL_law_381 (by decide) ?_
  refine lv_iadd hx hb dL_law_382 ?_
  refine lv_topk (v := 4) (by decide) ?_
  refine va_sld hx hb hX hbl hbA hS (by unfold vp_in; decide) dL_law_383 ?_
  refine lv_topk (v := scr 4) rfl ?_
  refine lv_aload_n hx hb dL_law_384 rfl (lv_at hl 3 rfl) ?_
  refine lv_iload_n hx hb dL_law_385 rfl (lv_at hl 0 rfl) ?_
  refine lv_iconst (v := 5) hx hb dL_law_386 (by decide) ?_
  refine lv_iadd hx hb dL_law_387 ?_
  refine lv_topk (v := 5) (by decide) ?_
  refine va_sld hx hb hX hbl hbA hS (by unfold vp_in; decide) dL_law_388 ?_
  refine lv_topk (v := scr 5) rfl ?_
  refine kVi (As := [.int (scr 1), .int (scr 2), .int (scr 3), .int (scr 4), .int (scr 5)]) (rest := []) (wr := [(m0, .inr (12, [.int 0, .ref m0a1, .int 0, .long 0, .int 0, .ref m0a5, .ref m0a6, .ref m0a7, .ref m0a8, .ref m0a9, .int 0, .ref m0a11, .ref m0a12, .ref m0a13, .ref m0a14, .ref m0a15, .ref m0a16, .int 0, .ref m0a18, .ref m0a19, .ref m0a20, .ref m0a21, .ref m0a22, .int 0, .ref m0a24, .ref m0a25, .ref m0a26, .int 0, .ref m0a28, .ref m0a29, .ref m0a30, .ref m0a31, .int 0, .ref m0a33, .ref m0a34, .ref m0a35, .ref m0a36, .ref m0a37, .ref m0a38, .ref m0a39, .ref m0a40, .ref m0a41, .ref m0a42, .ref m0a43, .ref m0a44, .ref m0a45, .ref m0a46, .ref m0a47, .int 0, .ref m0a49, .ref m0a50, .ref m0a51, .int 0, .ref m0a53, .ref m0a54, .ref m0a55, .ref m0a56, .ref m0a57, .ref m0a58, .ref m0a59, .ref m0a60, .ref m0a61, .ref m0a62, .ref m0a63, .long 0, .int 0, .int (-9), .ref m0a67, .ref m0a68, .ref m0a69, .ref m0a70, .ref m0a71, .ref m0a72, .ref m0a73, .ref m0a74, .ref m0a75, .long 0])), (m0a1, .inl (cI g, 6, .inl (fun _ => 0))), (m0a5, .inl (cI g, 6, .inl (fun _ => (-9))))]) X (c_X11_copy l g x0 (scr 1) (scr 2) (scr 3) (scr 4) (scr 5) xr xt xg xb xp xu xm xd xw xh xa xs xf xrs xrp) ok_X11_copy okv_X11_copy q_563 rfl hK hP hD hS hA hZ hl.1 [0, 1, 2, 3] [4, 5, 6] rfl rfl rfl rfl rfl 0 11 rfl rfl rfl (Nat.le_of_ble_eq_true rfl) ⟨Nat.le_of_ble_eq_true rfl, Nat.le_of_ble_eq_true rfl⟩ dL_law_389 ⟨Nat.le_of_ble_eq_true rfl, Nat.le_of_ble_eq_true rfl⟩ (fun r_1 w1 H locs hw_2 hP hD hS => ?_)
  have hP := pSub hP (ws' := [(m0, .inr (12, [.int 0, .ref m0a1, .int 0, .long 0, .int 0, .ref m0a5, .ref m0a6, .ref m0a7, .ref m0a8, .ref m0a9, .int 0, .ref m0a11, .ref m0a12, .ref m0a13, .ref m0a14, .ref m0a15, .ref m0a16, .int 0, .ref m0a18, .ref m0a19, .ref m0a20, .ref m0a21, .ref m0a22, .int 0, .ref m0a24, .ref m0a25, .ref m0a26, .int 0, .ref m0a28, .ref m0a29, .ref m0a30, .ref m0a31, .int 0, .ref m0a33, .ref m0a34, .ref m0a35, .ref m0a36, .ref m0a37, .ref m0a38, .ref m0a39, .ref m0a40, .ref m0a41, .ref m0a42, .ref m0a43, .ref m0a44, .ref m0a45, .ref m0a46, .ref m0a47, .int 0, .ref m0a49, .ref m0a50, .ref m0a51, .int 0, .ref m0a53, .ref m0a54, .ref m0a55, .ref m0a56, .ref m0a57, .ref m0a58, .ref m0a59, .ref m0a60, .ref m0a61, .ref m0a62, .ref m0a63, .long 0, .int 0, .int (-9), .ref m0a67, .ref m0a68, .ref m0a69, .ref m0a70, .ref m0a71, .ref m0a72, .ref m0a73, .ref m0a74, .ref m0a75, .long 0])), (m0a1, .inl (cI g, 6, .inl (fun _ => 0))), (m0a5, .inl (cI g, 6, .inl (fun _ => (-9))))]) [0, 1, 2] rfl
  have hD := hD.sub (ws' := [(m0, .inr (12, [.int 0, .ref m0a1, .int 0, .long 0, .int 0, .ref m0a5, .ref m0a6, .ref m0a7, .ref m0a8, .ref m0a9, .int 0, .ref m0a11, .ref m0a12, .ref m0a13, .ref m0a14, .ref m0a15, .ref m0a16, .int 0, .ref m0a18, .ref m0a19, .ref m0a20, .ref m0a21, .ref m0a22, .int 0, .ref m0a24, .ref m0a25, .ref m0a26, .int 0, .ref m0a28, .ref m0a29, .ref m0a30, .ref m0a31, .int 0, .ref m0a33, .ref m0a34, .ref m0a35, .ref m0a36, .ref m0a37, .ref m0a38, .ref m0a39, .ref m0a40, .ref m0a41, .ref m0a42, .ref m0a43, .ref m0a44, .ref m0a45, .ref m0a46, .ref m0a47, .int 0, .ref m0a49, .ref m0a50, .ref m0a51, .int 0, .ref m0a53, .ref m0a54, .ref m0a55, .ref m0a56, .ref m0a57, .ref m0a58, .ref m0a59, .ref m0a60, .ref m0a61, .ref m0a62, .ref m0a63, .long 0, .int 0, .int (-9), .ref m0a67, .ref m0a68, .ref m0a69, .ref m0a70, .ref m0a71, .ref m0a72, .ref m0a73, .ref m0a74, .ref m0a75, .long 0])), (m0a1, .inl (cI g, 6, .inl (fun _ => 0))), (m0a5, .inl (cI g, 6, .inl (fun _ => (-9))))]) [0, 1, 2] rfl rfl
  refine lv_aload_n hx hb dL_law_392 rfl (lv_at hl 1 rfl) ?_
  refine lv_aload_n hx hb dL_law_393 rfl (lv_at hl 3 rfl) ?_
  refine lv_iload_n hx hb dL_law_394 rfl (lv_at hl 0 rfl) ?_
  refine lv_iconst (v := 1) hx hb dL_law_395 (by decide) ?_
  refine lv_iadd hx hb dL_law_396 ?_
  refine lv_topk (v := 1) (by decide) ?_
  refine va_sld hx hb hX hbl hbA hS (by unfold vp_in; decide) dL_law_397 ?_
  refine lv_topk (v := scr 1) rfl ?_
  refine lv_aload_n hx hb dL_law_398 rfl (lv_at hl 3 rfl) ?_
  refine lv_iload_n hx hb dL_law_399 rfl (lv_at hl 0 rfl) ?_
  refine lv_iconst (v := 2) hx hb dL_law_400 (by decide) ?_
  refine lv_iadd hx hb dL_law_401 ?_
  refine lv_topk (v := 2) (by decide) ?_
  refine va_sld hx hb hX hbl hbA hS (by unfold vp_in; decide) dL_law_402 ?_
  refine lv_topk (v := scr 2) rfl ?_
  refine lv_aload_n hx hb dL_law_403 rfl (lv_at hl 3 rfl) ?_
  refine lv_iload_n hx hb dL_law_404 rfl (lv_at hl 0 rfl) ?_
  refine lv_iconst (v := 3) hx hb dL_law_405 (by decide) ?_
  refine lv_iadd hx hb dL_law_406 ?_
  refine lv_topk (v := 3) (by decide) ?_
  refine va_sld hx hb hX hbl hbA hS (by unfold vp_in; decide) dL_law_407 ?_
  refine lv_topk (v := scr 3) rfl ?_
  refine lv_aload_n hx hb dL_law_408 rfl (lv_at hl 3 rfl) ?_
  refine lv_iload_n hx hb dL_law_409 rfl (lv_at hl 0 rfl) ?_
  refine lv_iconst (v := 4) hx hb dL_law_410 (by decide) ?_
  refine lv_iadd hx hb dL_law_411 ?_
  refine lv_topk (v := 4) (by decide) ?_
  refine va_sld hx hb hX hbl hbA hS (by unfold vp_in; decide) dL_law_412 ?_
  refine lv_topk (v := scr 4) rfl ?_
  refine lv_aload_n hx hb dL_law_413 rfl (lv_at hl 3 rfl) ?_
  refine lv_iload_n hx hb dL_law_414 rfl (lv_at hl 0 rfl) ?_
  refine lv_iconst (v := 5) hx hb dL_law_415 (by decide) ?_
  refine lv_iadd hx hb dL_law_416 ?_
  refine lv_topk (v := 5) (by decide) ?_
  refine va_sld hx hb hX hbl hbA hS (by unfold vp_in; decide) dL_law_417 ?_
  refine lv_topk (v := scr 5) rfl ?_
  refine kVi (As := [.int (scr 1), .int (scr 2), .int (scr 3), .int (scr 4), .int (scr 5)]) (rest := [.int r_1]) (wr := []) X (c_X12_copy l g m0 (scr 1) (scr 2) (scr 3) (scr 4) (scr 5) m0a1 m0a5 m0a6 m0a7 m0a8 m0a9 m0a11 m0a12 m0a13 m0a14 m0a15 m0a16 m0a18 m0a19 m0a20 m0a21 m0a22 m0a24 m0a25 m0a26 m0a28 m0a29 m0a30 m0a31 m0a33 m0a34 m0a35 m0a36 m0a37 m0a38 m0a39 m0a40 m0a41 m0a42 m0a43 m0a44 m0a45 m0a46 m0a47 m0a49 m0a50 m0a51 m0a53 m0a54 m0a55 m0a56 m0a57 m0a58 m0a59 m0a60 m0a61 m0a62 m0a63 m0a67 m0a68 m0a69 m0a70 m0a71 m0a72 m0a73 m0a74 m0a75) ok_X12_copy okv_X12_copy q_1724 rfl hK hP hD hS hA hZ hl.1 [0, 1, 2] [] rfl rfl rfl rfl rfl 0 12 rfl rfl rfl (Nat.le_of_ble_eq_true rfl) ⟨Nat.le_of_ble_eq_true rfl, Nat.le_of_ble_eq_true rfl⟩ dL_law_418 ⟨Nat.le_of_ble_eq_true rfl, Nat.le_of_ble_eq_true rfl⟩ (fun r_3 w1 H locs hw_4 hP hD hS => ?_)
  have hP := pSub hP (ws' := []) [] rfl
  have hD := hD.sub (ws' := []) [] rfl rfl
  refine lv_icmp_eq (tgt := 1955) hx hb dL_law_421 (by decide) (fun _ => ?_) (fun c => absurd (hw_2.trans ((eq_copy g x0 (scr 1) (scr 2) (scr 3) (scr 4) (scr 5) xr xt xg xb xp xu xm xd xw xh xa xs xf xrs xrp m0 m0a1 m0a5 m0a6 m0a7 m0a8 m0a9 m0a11 m0a12 m0a13 m0a14 m0a15 m0a16 m0a18 m0a19 m0a20 m0a21 m0a22 m0a24 m0a25 m0a26 m0a28 m0a29 m0a30 m0a31 m0a33 m0a34 m0a35 m0a36 m0a37 m0a38 m0a39 m0a40 m0a41 m0a42 m0a43 m0a44 m0a45 m0a46 m0a47 m0a49 m0a50 m0a51 m0a53 m0a54 m0a55 m0a56 m0a57 m0a58 m0a59 m0a60 m0a61 m0a62 m0a63 m0a67 m0a68 m0a69 m0a70 m0a71 m0a72 m0a73 m0a74 m0a75).trans hw_4.symm)) c)
  exact kend _ _ _ hS (lv_sub hl [3, 0] rfl)
set_option maxHeartbeats 4000000 in
set_option maxRecDepth 100000 in
theorem law_4 (l : Launch) (g : GG) {p : Program} {e : Env} {s : State} {m : MethodId} {below : List Frame} {meth : Method} {c : Code} {b : Nat} {scr : Nat → Int32} (X : En p s m #[Value.ref b] meth c cL_law 4 ret R_law meth.name) (hK : va_K g.1 classes (tyG g) s) (hA : ∀ q, s.heap.size ≤ q → laA s q) (hZ : stS g (laA s) s s.heap) (hX : va_X b 6 scr s s.heap) (hbl : b < s.heap.size) (hbA : ¬ laA s b) (x0 : Nat) (xr : Nat) (xt : Nat) (xg : Nat) (xb : Nat) (xp : Nat) (xu : Nat) (xm : Nat) (xd : Nat) (xw : Nat) (xh : Nat) (xa : Nat) (xs : Nat) (xf : Nat) (xts : Nat) (xtp : Nat) (m0 : Nat) (m0a1 : Nat) (m0a5 : Nat) (m0a6 : Nat) (m0a7 : Nat) (m0a8 : Nat) (m0a9 : Nat) (m0a11 : Nat) (m0a12 : Nat) (m0a13 : Nat) (m0a14 : Nat) (m0a15 : Nat) (m0a16 : Nat) (m0a18 : Nat) (m0a19 : Nat) (m0a20 : Nat) (m0a21 : Nat) (m0a22 : Nat) (m0a24 : Nat) (m0a25 : Nat) (m0a26 : Nat) (m0a28 : Nat) (m0a29 : Nat) (m0a30 : Nat) (m0a31 : Nat) (m0a33 : Nat) (m0a34 : Nat) (m0a35 : Nat) (m0a36 : Nat) (m0a37 : Nat) (m0a38 : Nat) (m0a39 : Nat) (m0a40 : Nat) (m0a41 : Nat) (m0a42 : Nat) (m0a43 : Nat) (m0a44 : Nat) (m0a45 : Nat) (m0a46 : Nat) (m0a47 : Nat) (m0a49 : Nat) (m0a50 : Nat) (m0a51 : Nat) (m0a53 : Nat) (m0a54 : Nat) (m0a55 : Nat) (m0a56 : Nat) (m0a57 : Nat) (m0a58 : Nat) (m0a59 : Nat) (m0a60 : Nat) (m0a61 : Nat) (m0a62 : Nat) (m0a63 : Nat) (m0a67 : Nat) (m0a68 : Nat) (m0a69 : Nat) (m0a70 : Nat) (m0a71 : Nat) (m0a72 : Nat) (m0a73 : Nat) (m0a74 : Nat) (m0a75 : Nat) {H : Heap} {locs : List Loc} {ls : Array Slot} (hP : va_P g.1 classes [(x0, .inr (11, [.ref xr, .ref xt, .ref xg, .ref xb, .ref xp, .ref xu, .ref xm, .ref xd, .ref xw, .ref xh, .ref xa, .ref xs, .ref xf, .int 0, .int 0, .long 0, .long 0, .int 0])), (xt, .inr (8, [.int 4, .int 32, .ref xts, .ref xtp])), (xts, .inl (cI g, 6, .inl (fun _ => (-1)))), (xtp, .inl (cI g, 240, .inl (fun _ => 32))), (xf, .inl (cI g, 6, .inl (fun _ => 0))), (m0, .inr (12, [.int 0, .ref m0a1, .int 0, .long 0, .int 0, .ref m0a5, .ref m0a6, .ref m0a7, .ref m0a8, .ref m0a9, .int 0, .ref m0a11, .ref m0a12, .ref m0a13, .ref m0a14, .ref m0a15, .ref m0a16, .int 0, .ref m0a18, .ref m0a19, .ref m0a20, .ref m0a21, .ref m0a22, .int 0, .ref m0a24, .ref m0a25, .ref m0a26, .int 0, .ref m0a28, .ref m0a29, .ref m0a30, .ref m0a31, .int 0, .ref m0a33, .ref m0a34, .ref m0a35, .ref m0a36, .ref m0a37, .ref m0a38, .ref m0a39, .ref m0a40, .ref m0a41, .ref m0a42, .ref m0a43, .ref m0a44, .ref m0a45, .ref m0a46, .ref m0a47, .int 0, .ref m0a49, .ref m0a50, .ref m0a51, .int 0, .ref m0a53, .ref m0a54, .ref m0a55, .ref m0a56, .ref m0a57, .ref m0a58, .ref m0a59, .ref m0a60, .ref m0a61, .ref m0a62, .ref m0a63, .long 0, .int 0, .int (-9), .ref m0a67, .ref m0a68, .ref m0a69, .ref m0a70, .ref m0a71, .ref m0a72, .ref m0a73, .ref m0a74, .ref m0a75, .long 0])), (m0a1, .inl (cI g, 6, .inl (fun _ => 0))), (m0a8, .inl (cI g, 4, .inl (fun _ => (-9)))), (m0a9, .inl (cI g, 160, .inl (fun _ => 0)))] H) (hD : va_D (laA s) [(x0, .inr (11, [.ref xr, .ref xt, .ref xg, .ref xb, .ref xp, .ref xu, .ref xm, .ref xd, .ref xw, .ref xh, .ref xa, .ref xs, .ref xf, .int 0, .int 0, .long 0, .long 0, .int 0])), (xt, .inr (8, [.int 4, .int 32, .ref xts, .ref xtp])), (xts, .inl (cI g, 6, .inl (fun _ => (-1)))), (xtp, .inl (cI g, 240, .inl (fun _ => 32))), (xf, .inl (cI g, 6, .inl (fun _ => 0))), (m0, .inr (12, [.int 0, .ref m0a1, .int 0, .long 0, .int 0, .ref m0a5, .ref m0a6, .ref m0a7, .ref m0a8, .ref m0a9, .int 0, .ref m0a11, .ref m0a12, .ref m0a13, .ref m0a14, .ref m0a15, .ref m0a16, .int 0, .ref m0a18, .ref m0a19, .ref m0a20, .ref m0a21, .ref m0a22, .int 0, .ref m0a24, .ref m0a25, .ref m0a26, .int 0, .ref m0a28, .ref m0a29, .ref m0a30, .ref m0a31, .int 0, .ref m0a33, .ref m0a34, .ref m0a35, .ref m0a36, .ref m0a37, .ref m0a38, .ref m0a39, .ref m0a40, .ref m0a41, .ref m0a42, .ref m0a43, .ref m0a44, .ref m0a45, .ref m0a46, .ref m0a47, .int 0, .ref m0a49, .ref m0a50, .ref m0a51, .int 0, .ref m0a53, .ref m0a54, .ref m0a55, .ref m0a56, .ref m0a57, .ref m0a58, .ref m0a59, .ref m0a60, .ref m0a61, .ref m0a62, .ref m0a63, .long 0, .int 0, .int (-9), .ref m0a67, .ref m0a68, .ref m0a69, .ref m0a70, .ref m0a71, .ref m0a72, .ref m0a73, .ref m0a74, .ref m0a75, .long 0])), (m0a1, .inl (cI g, 6, .inl (fun _ => 0))), (m0a8, .inl (cI g, 4, .inl (fun _ => (-9)))), (m0a9, .inl (cI g, 160, .inl (fun _ => 0)))]) (hS : va_S (laA s) s.heap H locs) (hl : lv_has ls 4 [(3, .int 0), (2, .ref m0), (1, .ref x0), (0, .ref b)]) {Q : State → Prop} (kend : ∀ (H : Heap) (locs : List Loc) (ls : Array Slot), va_S (laA s) s.heap H locs → lv_has ls 4 [(0, .ref b), (3, .int 0)] → W p l e room_1 s m #[Value.ref b] below meth c H locs 141 11384 Q (F0 m 1955 ls [])) : W p l e room_1 s m #[Value.ref b] below meth c H locs 141 11384 Q (F0 m 426 ls []) := by
  have hx := X.1
  have hb := X.2.1
  have hml := X.2.2.1
  have hown := X.2.2.2.1
  have hts := X.2.2.2.2.1
  refine lv_aload_n hx hb dL_law_426 rfl (lv_at hl 2 rfl) ?_
  refine lv_aload_n hx hb dL_law_427 rfl (lv_at hl 3 rfl) ?_
  refine lv_iload_n hx hb dL_law_428 rfl (lv_at hl 0 rfl) ?_
  refine lv_iconst (v := 1) hx hb dL_law_429 (by decide) ?_
  refine lv_iadd hx hb dL_law_430 ?_
  refine lv_topk (v := 1) (by decide) ?_
  refine va_sld hx hb hX hbl hbA hS (by unfold vp_in; decide) dL_law_431 ?_
  refine lv_topk (v := scr 1) rfl ?_
  refine lv_aload_n hx hb dL_law_432 rfl (lv_at hl 3 rfl) ?_
  refine lv_iload_n hx hb dL_law_433 rfl (lv_at hl 0 rfl) ?_
  refine lv_iconst (v := 2) hx hb dL_law_434 (by decide) ?_
  refine lv_iadd hx hb dL_law_435 ?_
  refine lv_topk (v := 2) (by decide) ?_
  refine va_sld hx hb hX hbl hbA hS (by unfold vp_in; decide) dL_law_436 ?_
  refine lv_topk (v := scr 2) rfl ?_
  refine kVi (As := [.int (scr 1), .int (scr 2)]) (rest := []) (wr := [(m0, .inr (12, [.int 0, .ref m0a1, .int 0, .long 0, .int 0, .ref m0a5, .ref m0a6, .ref m0a7, .ref m0a8, .ref m0a9, .int 0, .ref m0a11, .ref m0a12, .ref m0a13, .ref m0a14, .ref m0a15, .ref m0a16, .int 0, .ref m0a18, .ref m0a19, .ref m0a20, .ref m0a21, .ref m0a22, .int 0, .ref m0a24, .ref m0a25, .ref m0a26, .int 0, .ref m0a28, .ref m0a29, .ref m0a30, .ref m0a31, .int 0, .ref m0a33, .ref m0a34, .ref m0a35, .ref m0a36, .ref m0a37, .ref m0a38, .ref m0a39, .ref m0a40, .ref m0a41, .ref m0a42, .ref m0a43, .ref m0a44, .ref m0a45, .ref m0a46, .ref m0a47, .int 0, .ref m0a49, .ref m0a50, .ref m0a51, .int 0, .ref m0a53, .ref m0a54, .ref m0a55, .ref m0a56, .ref m0a57, .ref m0a58, .ref m0a59, .ref m0a60, .ref m0a61, .ref m0a62, .ref m0a63, .long 0, .int 0, .int (-9), .ref m0a67, .ref m0a68, .ref m0a69, .ref m0a70, .ref m0a71, .ref m0a72, .ref m0a73, .ref m0a74, .ref m0a75, .long 0])), (m0a1, .inl (cI g, 6, .inl (fun _ => 0))), (m0a8, .inl (cI g, 4, .inl (fun _ => (-9)))), (m0a9, .inl (cI g, 160, .inl (fun _ => 0)))]) X (c_X11_text l g x0 (scr 1) (scr 2) xr xt xg xb xp xu xm xd xw xh xa xs xf xts xtp) ok_X11_text okv_X11_text q_578 rfl hK hP hD hS hA hZ hl.1 [0, 1, 2, 3, 4] [5, 6, 7, 8] rfl rfl rfl rfl rfl 0 11 rfl rfl rfl (Nat.le_of_ble_eq_true rfl) ⟨Nat.le_of_ble_eq_true rfl, Nat.le_of_ble_eq_true rfl⟩ dL_law_437 ⟨Nat.le_of_ble_eq_true rfl, Nat.le_of_ble_eq_true rfl⟩ (fun r_1 w1 H locs hw_2 hP hD hS => ?_)
  have hP := pSub hP (ws' := [(m0, .inr (12, [.int 0, .ref m0a1, .int 0, .long 0, .int 0, .ref m0a5, .ref m0a6, .ref m0a7, .ref m0a8, .ref m0a9, .int 0, .ref m0a11, .ref m0a12, .ref m0a13, .ref m0a14, .ref m0a15, .ref m0a16, .int 0, .ref m0a18, .ref m0a19, .ref m0a20, .ref m0a21, .ref m0a22, .int 0, .ref m0a24, .ref m0a25, .ref m0a26, .int 0, .ref m0a28, .ref m0a29, .ref m0a30, .ref m0a31, .int 0, .ref m0a33, .ref m0a34, .ref m0a35, .ref m0a36, .ref m0a37, .ref m0a38, .ref m0a39, .ref m0a40, .ref m0a41, .ref m0a42, .ref m0a43, .ref m0a44, .ref m0a45, .ref m0a46, .ref m0a47, .int 0, .ref m0a49, .ref m0a50, .ref m0a51, .int 0, .ref m0a53, .ref m0a54, .ref m0a55, .ref m0a56, .ref m0a57, .ref m0a58, .ref m0a59, .ref m0a60, .ref m0a61, .ref m0a62, .ref m0a63, .long 0, .int 0, .int (-9), .ref m0a67, .ref m0a68, .ref m0a69, .ref m0a70, .ref m0a71, .ref m0a72, .ref m0a73, .ref m0a74, .ref m0a75, .long 0])), (m0a1, .inl (cI g, 6, .inl (fun _ => 0))), (m0a8, .inl (cI g, 4, .inl (fun _ => (-9)))), (m0a9, .inl (cI g, 160, .inl (fun _ => 0)))]) [0, 1, 2, 3] rfl
  have hD := hD.sub (ws' := [(m0, .inr (12, [.int 0, .ref m0a1, .int 0, .long 0, .int 0, .ref m0a5, .ref m0a6, .ref m0a7, .ref m0a8, .ref m0a9, .int 0, .ref m0a11, .ref m0a12, .ref m0a13, .ref m0a14, .ref m0a15, .ref m0a16, .int 0, .ref m0a18, .ref m0a19, .ref m0a20, .ref m0a21, .ref m0a22, .int 0, .ref m0a24, .ref m0a25, .ref m0a26, .int 0, .ref m0a28, .ref m0a29, .ref m0a30, .ref m0a31, .int 0, .ref m0a33, .ref m0a34, .ref m0a35, .ref m0a36, .ref m0a37, .ref m0a38, .ref m0a39, .ref m0a40, .ref m0a41, .ref m0a42, .ref m0a43, .ref m0a44, .ref m0a45, .ref m0a46, .ref m0a47, .int 0, .ref m0a49, .ref m0a50, .ref m0a51, .int 0, .ref m0a53, .ref m0a54, .ref m0a55, .ref m0a56, .ref m0a57, .ref m0a58, .ref m0a59, .ref m0a60, .ref m0a61, .ref m0a62, .ref m0a63, .long 0, .int 0, .int (-9), .ref m0a67, .ref m0a68, .ref m0a69, .ref m0a70, .ref m0a71, .ref m0a72, .ref m0a73, .ref m0a74, .ref m0a75, .long 0])), (m0a1, .inl (cI g, 6, .inl (fun _ => 0))), (m0a8, .inl (cI g, 4, .inl (fun _ => (-9)))), (m0a9, .inl (cI g, 160, .inl (fun _ => 0)))]) [0, 1, 2, 3] rfl rfl
  refine lv_aload_n hx hb dL_law_440 rfl (lv_at hl 1 rfl) ?_
  refine lv_aload_n hx hb dL_law_441 rfl (lv_at hl 3 rfl) ?_
  refine lv_iload_n hx hb dL_law_442 rfl (lv_at hl 0 rfl) ?_
  refine lv_iconst (v := 1) hx hb dL_law_443 (by decide) ?_
  refine lv_iadd hx hb dL_law_444 ?_
  refine lv_topk (v := 1) (by decide) ?_
  refine va_sld hx hb hX hbl hbA hS (by unfold vp_in; decide) dL_law_445 ?_
  refine lv_topk (v := scr 1) rfl ?_
  refine lv_aload_n hx hb dL_law_446 rfl (lv_at hl 3 rfl) ?_
  refine lv_iload_n hx hb dL_law_447 rfl (lv_at hl 0 rfl) ?_
  refine lv_iconst (v := 2) hx hb dL_law_448 (by decide) ?_
  refine lv_iadd hx hb dL_law_449 ?_
  refine lv_topk (v := 2) (by decide) ?_
  refine va_sld hx hb hX hbl hbA hS (by unfold vp_in; decide) dL_law_450 ?_
  refine lv_topk (v := scr 2) rfl ?_
  refine kVi (As := [.int (scr 1), .int (scr 2)]) (rest := [.int r_1]) (wr := []) X (c_X12_text l g m0 (scr 1) (scr 2) m0a1 m0a5 m0a6 m0a7 m0a8 m0a9 m0a11 m0a12 m0a13 m0a14 m0a15 m0a16 m0a18 m0a19 m0a20 m0a21 m0a22 m0a24 m0a25 m0a26 m0a28 m0a29 m0a30 m0a31 m0a33 m0a34 m0a35 m0a36 m0a37 m0a38 m0a39 m0a40 m0a41 m0a42 m0a43 m0a44 m0a45 m0a46 m0a47 m0a49 m0a50 m0a51 m0a53 m0a54 m0a55 m0a56 m0a57 m0a58 m0a59 m0a60 m0a61 m0a62 m0a63 m0a67 m0a68 m0a69 m0a70 m0a71 m0a72 m0a73 m0a74 m0a75) ok_X12_text okv_X12_text q_1728 rfl hK hP hD hS hA hZ hl.1 [0, 1, 2, 3] [] rfl rfl rfl rfl rfl 0 12 rfl rfl rfl (Nat.le_of_ble_eq_true rfl) ⟨Nat.le_of_ble_eq_true rfl, Nat.le_of_ble_eq_true rfl⟩ dL_law_451 ⟨Nat.le_of_ble_eq_true rfl, Nat.le_of_ble_eq_true rfl⟩ (fun r_3 w1 H locs hw_4 hP hD hS => ?_)
  have hP := pSub hP (ws' := []) [] rfl
  have hD := hD.sub (ws' := []) [] rfl rfl
  refine lv_icmp_eq (tgt := 1955) hx hb dL_law_454 (by decide) (fun _ => ?_) (fun c => absurd (hw_2.trans ((eq_text g x0 (scr 1) (scr 2) xr xt xg xb xp xu xm xd xw xh xa xs xf xts xtp m0 m0a1 m0a5 m0a6 m0a7 m0a8 m0a9 m0a11 m0a12 m0a13 m0a14 m0a15 m0a16 m0a18 m0a19 m0a20 m0a21 m0a22 m0a24 m0a25 m0a26 m0a28 m0a29 m0a30 m0a31 m0a33 m0a34 m0a35 m0a36 m0a37 m0a38 m0a39 m0a40 m0a41 m0a42 m0a43 m0a44 m0a45 m0a46 m0a47 m0a49 m0a50 m0a51 m0a53 m0a54 m0a55 m0a56 m0a57 m0a58 m0a59 m0a60 m0a61 m0a62 m0a63 m0a67 m0a68 m0a69 m0a70 m0a71 m0a72 m0a73 m0a74 m0a75).trans hw_4.symm)) c)
  exact kend _ _ _ hS (lv_sub hl [3, 0] rfl)
set_option maxHeartbeats 4000000 in
set_option maxRecDepth 100000 in
theorem law_5 (l : Launch) (g : GG) {p : Program} {e : Env} {s : State} {m : MethodId} {below : List Frame} {meth : Method} {c : Code} {b : Nat} {scr : Nat → Int32} (X : En p s m #[Value.ref b] meth c cL_law 4 ret R_law meth.name) (hK : va_K g.1 classes (tyG g) s) (hA : ∀ q, s.heap.size ≤ q → laA s q) (hZ : stS g (laA s) s s.heap) (hX : va_X b 6 scr s s.heap) (hbl : b < s.heap.size) (hbA : ¬ laA s b) (x0 : Nat) (xr : Nat) (xt : Nat) (xg : Nat) (xb : Nat) (xp : Nat) (xu : Nat) (xm : Nat) (xd : Nat) (xw : Nat) (xh : Nat) (xa : Nat) (xs : Nat) (xf : Nat) (xts : Nat) (xtp : Nat) (m0 : Nat) (m0a1 : Nat) (m0a5 : Nat) (m0a6 : Nat) (m0a7 : Nat) (m0a8 : Nat) (m0a9 : Nat) (m0a11 : Nat) (m0a12 : Nat) (m0a13 : Nat) (m0a14 : Nat) (m0a15 : Nat) (m0a16 : Nat) (m0a18 : Nat) (m0a19 : Nat) (m0a20 : Nat) (m0a21 : Nat) (m0a22 : Nat) (m0a24 : Nat) (m0a25 : Nat) (m0a26 : Nat) (m0a28 : Nat) (m0a29 : Nat) (m0a30 : Nat) (m0a31 : Nat) (m0a33 : Nat) (m0a34 : Nat) (m0a35 : Nat) (m0a36 : Nat) (m0a37 : Nat) (m0a38 : Nat) (m0a39 : Nat) (m0a40 : Nat) (m0a41 : Nat) (m0a42 : Nat) (m0a43 : Nat) (m0a44 : Nat) (m0a45 : Nat) (m0a46 : Nat) (m0a47 : Nat) (m0a49 : Nat) (m0a50 : Nat) (m0a51 : Nat) (m0a53 : Nat) (m0a54 : Nat) (m0a55 : Nat) (m0a56 : Nat) (m0a57 : Nat) (m0a58 : Nat) (m0a59 : Nat) (m0a60 : Nat) (m0a61 : Nat) (m0a62 : Nat) (m0a63 : Nat) (m0a67 : Nat) (m0a68 : Nat) (m0a69 : Nat) (m0a70 : Nat) (m0a71 : Nat) (m0a72 : Nat) (m0a73 : Nat) (m0a74 : Nat) (m0a75 : Nat) {H : Heap} {locs : List Loc} {ls : Array Slot} (hP : va_P g.1 classes [(x0, .inr (11, [.ref xr, .ref xt, .ref xg, .ref xb, .ref xp, .ref xu, .ref xm, .ref xd, .ref xw, .ref xh, .ref xa, .ref xs, .ref xf, .int 0, .int 0, .long 0, .long 0, .int 0])), (xt, .inr (8, [.int 4, .int 32, .ref xts, .ref xtp])), (xts, .inl (cI g, 6, .inl (fun _ => (-1)))), (xf, .inl (cI g, 6, .inl (fun _ => 0))), (m0, .inr (12, [.int 0, .ref m0a1, .int 0, .long 0, .int 0, .ref m0a5, .ref m0a6, .ref m0a7, .ref m0a8, .ref m0a9, .int 0, .ref m0a11, .ref m0a12, .ref m0a13, .ref m0a14, .ref m0a15, .ref m0a16, .int 0, .ref m0a18, .ref m0a19, .ref m0a20, .ref m0a21, .ref m0a22, .int 0, .ref m0a24, .ref m0a25, .ref m0a26, .int 0, .ref m0a28, .ref m0a29, .ref m0a30, .ref m0a31, .int 0, .ref m0a33, .ref m0a34, .ref m0a35, .ref m0a36, .ref m0a37, .ref m0a38, .ref m0a39, .ref m0a40, .ref m0a41, .ref m0a42, .ref m0a43, .ref m0a44, .ref m0a45, .ref m0a46, .ref m0a47, .int 0, .ref m0a49, .ref m0a50, .ref m0a51, .int 0, .ref m0a53, .ref m0a54, .ref m0a55, .ref m0a56, .ref m0a57, .ref m0a58, .ref m0a59, .ref m0a60, .ref m0a61, .ref m0a62, .ref m0a63, .long 0, .int 0, .int (-9), .ref m0a67, .ref m0a68, .ref m0a69, .ref m0a70, .ref m0a71, .ref m0a72, .ref m0a73, .ref m0a74, .ref m0a75, .long 0])), (m0a1, .inl (cI g, 6, .inl (fun _ => 0))), (m0a8, .inl (cI g, 4, .inl (fun _ => (-9))))] H) (hD : va_D (laA s) [(x0, .inr (11, [.ref xr, .ref xt, .ref xg, .ref xb, .ref xp, .ref xu, .ref xm, .ref xd, .ref xw, .ref xh, .ref xa, .ref xs, .ref xf, .int 0, .int 0, .long 0, .long 0, .int 0])), (xt, .inr (8, [.int 4, .int 32, .ref xts, .ref xtp])), (xts, .inl (cI g, 6, .inl (fun _ => (-1)))), (xf, .inl (cI g, 6, .inl (fun _ => 0))), (m0, .inr (12, [.int 0, .ref m0a1, .int 0, .long 0, .int 0, .ref m0a5, .ref m0a6, .ref m0a7, .ref m0a8, .ref m0a9, .int 0, .ref m0a11, .ref m0a12, .ref m0a13, .ref m0a14, .ref m0a15, .ref m0a16, .int 0, .ref m0a18, .ref m0a19, .ref m0a20, .ref m0a21, .ref m0a22, .int 0, .ref m0a24, .ref m0a25, .ref m0a26, .int 0, .ref m0a28, .ref m0a29, .ref m0a30, .ref m0a31, .int 0, .ref m0a33, .ref m0a34, .ref m0a35, .ref m0a36, .ref m0a37, .ref m0a38, .ref m0a39, .ref m0a40, .ref m0a41, .ref m0a42, .ref m0a43, .ref m0a44, .ref m0a45, .ref m0a46, .ref m0a47, .int 0, .ref m0a49, .ref m0a50, .ref m0a51, .int 0, .ref m0a53, .ref m0a54, .ref m0a55, .ref m0a56, .ref m0a57, .ref m0a58, .ref m0a59, .ref m0a60, .ref m0a61, .ref m0a62, .ref m0a63, .long 0, .int 0, .int (-9), .ref m0a67, .ref m0a68, .ref m0a69, .ref m0a70, .ref m0a71, .ref m0a72, .ref m0a73, .ref m0a74, .ref m0a75, .long 0])), (m0a1, .inl (cI g, 6, .inl (fun _ => 0))), (m0a8, .inl (cI g, 4, .inl (fun _ => (-9))))]) (hS : va_S (laA s) s.heap H locs) (hl : lv_has ls 4 [(3, .int 0), (2, .ref m0), (1, .ref x0), (0, .ref b)]) {Q : State → Prop} (kend : ∀ (H : Heap) (locs : List Loc) (ls : Array Slot), va_S (laA s) s.heap H locs → lv_has ls 4 [(0, .ref b), (3, .int 0)] → W p l e room_1 s m #[Value.ref b] below meth c H locs 141 11384 Q (F0 m 1955 ls [])) : W p l e room_1 s m #[Value.ref b] below meth c H locs 141 11384 Q (F0 m 459 ls []) := by
  have hx := X.1
  have hb := X.2.1
  have hml := X.2.2.1
  have hown := X.2.2.2.1
  have hts := X.2.2.2.2.1
  refine lv_aload_n hx hb dL_law_459 rfl (lv_at hl 2 rfl) ?_
  refine lv_aload_n hx hb dL_law_460 rfl (lv_at hl 3 rfl) ?_
  refine lv_iload_n hx hb dL_law_461 rfl (lv_at hl 0 rfl) ?_
  refine lv_iconst (v := 1) hx hb dL_law_462 (by decide) ?_
  refine lv_iadd hx hb dL_law_463 ?_
  refine lv_topk (v := 1) (by decide) ?_
  refine va_sld hx hb hX hbl hbA hS (by unfold vp_in; decide) dL_law_464 ?_
  refine lv_topk (v := scr 1) rfl ?_
  refine lv_aload_n hx hb dL_law_465 rfl (lv_at hl 3 rfl) ?_
  refine lv_iload_n hx hb dL_law_466 rfl (lv_at hl 0 rfl) ?_
  refine lv_iconst (v := 2) hx hb dL_law_467 (by decide) ?_
  refine lv_iadd hx hb dL_law_468 ?_
  refine lv_topk (v := 2) (by decide) ?_
  refine va_sld hx hb hX hbl hbA hS (by unfold vp_in; decide) dL_law_469 ?_
  refine lv_topk (v := scr 2) rfl ?_
  refine lv_aload_n hx hb dL_law_470 rfl (lv_at hl 3 rfl) ?_
  refine lv_iload_n hx hb dL_law_471 rfl (lv_at hl 0 rfl) ?_
  refine lv_iconst (v := 3) hx hb dL_law_472 (by decide) ?_
  refine lv_iadd hx hb dL_law_473 ?_
  refine lv_topk (v := 3) (by decide) ?_
  refine va_sld hx hb hX hbl hbA hS (by unfold vp_in; decide) dL_law_474 ?_
  refine lv_topk (v := scr 3) rfl ?_
  refine kVi (As := [.int (scr 1), .int (scr 2), .int (scr 3)]) (rest := []) (wr := [(m0, .inr (12, [.int 0, .ref m0a1, .int 0, .long 0, .int 0, .ref m0a5, .ref m0a6, .ref m0a7, .ref m0a8, .ref m0a9, .int 0, .ref m0a11, .ref m0a12, .ref m0a13, .ref m0a14, .ref m0a15, .ref m0a16, .int 0, .ref m0a18, .ref m0a19, .ref m0a20, .ref m0a21, .ref m0a22, .int 0, .ref m0a24, .ref m0a25, .ref m0a26, .int 0, .ref m0a28, .ref m0a29, .ref m0a30, .ref m0a31, .int 0, .ref m0a33, .ref m0a34, .ref m0a35, .ref m0a36, .ref m0a37, .ref m0a38, .ref m0a39, .ref m0a40, .ref m0a41, .ref m0a42, .ref m0a43, .ref m0a44, .ref m0a45, .ref m0a46, .ref m0a47, .int 0, .ref m0a49, .ref m0a50, .ref m0a51, .int 0, .ref m0a53, .ref m0a54, .ref m0a55, .ref m0a56, .ref m0a57, .ref m0a58, .ref m0a59, .ref m0a60, .ref m0a61, .ref m0a62, .ref m0a63, .long 0, .int 0, .int (-9), .ref m0a67, .ref m0a68, .ref m0a69, .ref m0a70, .ref m0a71, .ref m0a72, .ref m0a73, .ref m0a74, .ref m0a75, .long 0])), (m0a1, .inl (cI g, 6, .inl (fun _ => 0))), (m0a8, .inl (cI g, 4, .inl (fun _ => (-9))))]) X (c_X11_put l g x0 (scr 1) (scr 2) (scr 3) xr xt xg xb xp xu xm xd xw xh xa xs xf xts xtp) ok_X11_put okv_X11_put q_582 rfl hK hP hD hS hA hZ hl.1 [0, 1, 2, 3] [4, 5, 6] rfl rfl rfl rfl rfl 0 11 rfl rfl rfl (Nat.le_of_ble_eq_true rfl) ⟨Nat.le_of_ble_eq_true rfl, Nat.le_of_ble_eq_true rfl⟩ dL_law_475 ⟨Nat.le_of_ble_eq_true rfl, Nat.le_of_ble_eq_true rfl⟩ (fun r_1 w1 H locs hw_2 hP hD hS => ?_)
  have hP := pSub hP (ws' := [(m0, .inr (12, [.int 0, .ref m0a1, .int 0, .long 0, .int 0, .ref m0a5, .ref m0a6, .ref m0a7, .ref m0a8, .ref m0a9, .int 0, .ref m0a11, .ref m0a12, .ref m0a13, .ref m0a14, .ref m0a15, .ref m0a16, .int 0, .ref m0a18, .ref m0a19, .ref m0a20, .ref m0a21, .ref m0a22, .int 0, .ref m0a24, .ref m0a25, .ref m0a26, .int 0, .ref m0a28, .ref m0a29, .ref m0a30, .ref m0a31, .int 0, .ref m0a33, .ref m0a34, .ref m0a35, .ref m0a36, .ref m0a37, .ref m0a38, .ref m0a39, .ref m0a40, .ref m0a41, .ref m0a42, .ref m0a43, .ref m0a44, .ref m0a45, .ref m0a46, .ref m0a47, .int 0, .ref m0a49, .ref m0a50, .ref m0a51, .int 0, .ref m0a53, .ref m0a54, .ref m0a55, .ref m0a56, .ref m0a57, .ref m0a58, .ref m0a59, .ref m0a60, .ref m0a61, .ref m0a62, .ref m0a63, .long 0, .int 0, .int (-9), .ref m0a67, .ref m0a68, .ref m0a69, .ref m0a70, .ref m0a71, .ref m0a72, .ref m0a73, .ref m0a74, .ref m0a75, .long 0])), (m0a1, .inl (cI g, 6, .inl (fun _ => 0))), (m0a8, .inl (cI g, 4, .inl (fun _ => (-9))))]) [0, 1, 2] rfl
  have hD := hD.sub (ws' := [(m0, .inr (12, [.int 0, .ref m0a1, .int 0, .long 0, .int 0, .ref m0a5, .ref m0a6, .ref m0a7, .ref m0a8, .ref m0a9, .int 0, .ref m0a11, .ref m0a12, .ref m0a13, .ref m0a14, .ref m0a15, .ref m0a16, .int 0, .ref m0a18, .ref m0a19, .ref m0a20, .ref m0a21, .ref m0a22, .int 0, .ref m0a24, .ref m0a25, .ref m0a26, .int 0, .ref m0a28, .ref m0a29, .ref m0a30, .ref m0a31, .int 0, .ref m0a33, .ref m0a34, .ref m0a35, .ref m0a36, .ref m0a37, .ref m0a38, .ref m0a39, .ref m0a40, .ref m0a41, .ref m0a42, .ref m0a43, .ref m0a44, .ref m0a45, .ref m0a46, .ref m0a47, .int 0, .ref m0a49, .ref m0a50, .ref m0a51, .int 0, .ref m0a53, .ref m0a54, .ref m0a55, .ref m0a56, .ref m0a57, .ref m0a58, .ref m0a59, .ref m0a60, .ref m0a61, .ref m0a62, .ref m0a63, .long 0, .int 0, .int (-9), .ref m0a67, .ref m0a68, .ref m0a69, .ref m0a70, .ref m0a71, .ref m0a72, .ref m0a73, .ref m0a74, .ref m0a75, .long 0])), (m0a1, .inl (cI g, 6, .inl (fun _ => 0))), (m0a8, .inl (cI g, 4, .inl (fun _ => (-9))))]) [0, 1, 2] rfl rfl
  refine lv_aload_n hx hb dL_law_478 rfl (lv_at hl 1 rfl) ?_
  refine lv_aload_n hx hb dL_law_479 rfl (lv_at hl 3 rfl) ?_
  refine lv_iload_n hx hb dL_law_480 rfl (lv_at hl 0 rfl) ?_
  refine lv_iconst (v := 1) hx hb dL_law_481 (by decide) ?_
  refine lv_iadd hx hb dL_law_482 ?_
  refine lv_topk (v := 1) (by decide) ?_
  refine va_sld hx hb hX hbl hbA hS (by unfold vp_in; decide) dL_law_483 ?_
  refine lv_topk (v := scr 1) rfl ?_
  refine lv_aload_n hx hb dL_law_484 rfl (lv_at hl 3 rfl) ?_
  refine lv_iload_n hx hb dL_law_485 rfl (lv_at hl 0 rfl) ?_
  refine lv_iconst (v := 2) hx hb dL_law_486 (by decide) ?_
  refine lv_iadd hx hb dL_law_487 ?_
  refine lv_topk (v := 2) (by decide) ?_
  refine va_sld hx hb hX hbl hbA hS (by unfold vp_in; decide) dL_law_488 ?_
  refine lv_topk (v := scr 2) rfl ?_
  refine lv_aload_n hx hb dL_law_489 rfl (lv_at hl 3 rfl) ?_
  refine lv_iload_n hx hb dL_law_490 rfl (lv_at hl 0 rfl) ?_
  refine lv_iconst (v := 3) hx hb dL_law_491 (by decide) ?_
  refine lv_iadd hx hb dL_law_492 ?_
  refine lv_topk (v := 3) (by decide) ?_
  refine va_sld hx hb hX hbl hbA hS (by unfold vp_in; decide) dL_law_493 ?_
  refine lv_topk (v := scr 3) rfl ?_
  refine kVi (As := [.int (scr 1), .int (scr 2), .int (scr 3)]) (rest := [.int r_1]) (wr := []) X (c_X12_put l g m0 (scr 1) (scr 2) (scr 3) m0a1 m0a5 m0a6 m0a7 m0a8 m0a9 m0a11 m0a12 m0a13 m0a14 m0a15 m0a16 m0a18 m0a19 m0a20 m0a21 m0a22 m0a24 m0a25 m0a26 m0a28 m0a29 m0a30 m0a31 m0a33 m0a34 m0a35 m0a36 m0a37 m0a38 m0a39 m0a40 m0a41 m0a42 m0a43 m0a44 m0a45 m0a46 m0a47 m0a49 m0a50 m0a51 m0a53 m0a54 m0a55 m0a56 m0a57 m0a58 m0a59 m0a60 m0a61 m0a62 m0a63 m0a67 m0a68 m0a69 m0a70 m0a71 m0a72 m0a73 m0a74 m0a75) ok_X12_put okv_X12_put q_1735 rfl hK hP hD hS hA hZ hl.1 [0, 1, 2] [] rfl rfl rfl rfl rfl 0 12 rfl rfl rfl (Nat.le_of_ble_eq_true rfl) ⟨Nat.le_of_ble_eq_true rfl, Nat.le_of_ble_eq_true rfl⟩ dL_law_494 ⟨Nat.le_of_ble_eq_true rfl, Nat.le_of_ble_eq_true rfl⟩ (fun r_3 w1 H locs hw_4 hP hD hS => ?_)
  have hP := pSub hP (ws' := []) [] rfl
  have hD := hD.sub (ws' := []) [] rfl rfl
  refine lv_icmp_eq (tgt := 1955) hx hb dL_law_497 (by decide) (fun _ => ?_) (fun c => absurd (hw_2.trans ((eq_put g x0 (scr 1) (scr 2) (scr 3) xr xt xg xb xp xu xm xd xw xh xa xs xf xts xtp m0 m0a1 m0a5 m0a6 m0a7 m0a8 m0a9 m0a11 m0a12 m0a13 m0a14 m0a15 m0a16 m0a18 m0a19 m0a20 m0a21 m0a22 m0a24 m0a25 m0a26 m0a28 m0a29 m0a30 m0a31 m0a33 m0a34 m0a35 m0a36 m0a37 m0a38 m0a39 m0a40 m0a41 m0a42 m0a43 m0a44 m0a45 m0a46 m0a47 m0a49 m0a50 m0a51 m0a53 m0a54 m0a55 m0a56 m0a57 m0a58 m0a59 m0a60 m0a61 m0a62 m0a63 m0a67 m0a68 m0a69 m0a70 m0a71 m0a72 m0a73 m0a74 m0a75).trans hw_4.symm)) c)
  exact kend _ _ _ hS (lv_sub hl [3, 0] rfl)
set_option maxHeartbeats 4000000 in
set_option maxRecDepth 100000 in
theorem law_6 (l : Launch) (g : GG) {p : Program} {e : Env} {s : State} {m : MethodId} {below : List Frame} {meth : Method} {c : Code} {b : Nat} {scr : Nat → Int32} (X : En p s m #[Value.ref b] meth c cL_law 4 ret R_law meth.name) (hK : va_K g.1 classes (tyG g) s) (hA : ∀ q, s.heap.size ≤ q → laA s q) (hZ : stS g (laA s) s s.heap) (hX : va_X b 6 scr s s.heap) (hbl : b < s.heap.size) (hbA : ¬ laA s b) (x0 : Nat) (xr : Nat) (xt : Nat) (xg : Nat) (xb : Nat) (xp : Nat) (xu : Nat) (xm : Nat) (xd : Nat) (xw : Nat) (xh : Nat) (xa : Nat) (xs : Nat) (xf : Nat) (xts : Nat) (xtp : Nat) (m0 : Nat) (m0a1 : Nat) (m0a5 : Nat) (m0a6 : Nat) (m0a7 : Nat) (m0a8 : Nat) (m0a9 : Nat) (m0a11 : Nat) (m0a12 : Nat) (m0a13 : Nat) (m0a14 : Nat) (m0a15 : Nat) (m0a16 : Nat) (m0a18 : Nat) (m0a19 : Nat) (m0a20 : Nat) (m0a21 : Nat) (m0a22 : Nat) (m0a24 : Nat) (m0a25 : Nat) (m0a26 : Nat) (m0a28 : Nat) (m0a29 : Nat) (m0a30 : Nat) (m0a31 : Nat) (m0a33 : Nat) (m0a34 : Nat) (m0a35 : Nat) (m0a36 : Nat) (m0a37 : Nat) (m0a38 : Nat) (m0a39 : Nat) (m0a40 : Nat) (m0a41 : Nat) (m0a42 : Nat) (m0a43 : Nat) (m0a44 : Nat) (m0a45 : Nat) (m0a46 : Nat) (m0a47 : Nat) (m0a49 : Nat) (m0a50 : Nat) (m0a51 : Nat) (m0a53 : Nat) (m0a54 : Nat) (m0a55 : Nat) (m0a56 : Nat) (m0a57 : Nat) (m0a58 : Nat) (m0a59 : Nat) (m0a60 : Nat) (m0a61 : Nat) (m0a62 : Nat) (m0a63 : Nat) (m0a67 : Nat) (m0a68 : Nat) (m0a69 : Nat) (m0a70 : Nat) (m0a71 : Nat) (m0a72 : Nat) (m0a73 : Nat) (m0a74 : Nat) (m0a75 : Nat) {H : Heap} {locs : List Loc} {ls : Array Slot} (hP : va_P g.1 classes [(x0, .inr (11, [.ref xr, .ref xt, .ref xg, .ref xb, .ref xp, .ref xu, .ref xm, .ref xd, .ref xw, .ref xh, .ref xa, .ref xs, .ref xf, .int 0, .int 0, .long 0, .long 0, .int 0])), (xt, .inr (8, [.int 4, .int 32, .ref xts, .ref xtp])), (xts, .inl (cI g, 6, .inl (fun _ => (-1)))), (xf, .inl (cI g, 6, .inl (fun _ => 0))), (m0, .inr (12, [.int 0, .ref m0a1, .int 0, .long 0, .int 0, .ref m0a5, .ref m0a6, .ref m0a7, .ref m0a8, .ref m0a9, .int 0, .ref m0a11, .ref m0a12, .ref m0a13, .ref m0a14, .ref m0a15, .ref m0a16, .int 0, .ref m0a18, .ref m0a19, .ref m0a20, .ref m0a21, .ref m0a22, .int 0, .ref m0a24, .ref m0a25, .ref m0a26, .int 0, .ref m0a28, .ref m0a29, .ref m0a30, .ref m0a31, .int 0, .ref m0a33, .ref m0a34, .ref m0a35, .ref m0a36, .ref m0a37, .ref m0a38, .ref m0a39, .ref m0a40, .ref m0a41, .ref m0a42, .ref m0a43, .ref m0a44, .ref m0a45, .ref m0a46, .ref m0a47, .int 0, .ref m0a49, .ref m0a50, .ref m0a51, .int 0, .ref m0a53, .ref m0a54, .ref m0a55, .ref m0a56, .ref m0a57, .ref m0a58, .ref m0a59, .ref m0a60, .ref m0a61, .ref m0a62, .ref m0a63, .long 0, .int 0, .int (-9), .ref m0a67, .ref m0a68, .ref m0a69, .ref m0a70, .ref m0a71, .ref m0a72, .ref m0a73, .ref m0a74, .ref m0a75, .long 0])), (m0a1, .inl (cI g, 6, .inl (fun _ => 0))), (m0a8, .inl (cI g, 4, .inl (fun _ => (-9))))] H) (hD : va_D (laA s) [(x0, .inr (11, [.ref xr, .ref xt, .ref xg, .ref xb, .ref xp, .ref xu, .ref xm, .ref xd, .ref xw, .ref xh, .ref xa, .ref xs, .ref xf, .int 0, .int 0, .long 0, .long 0, .int 0])), (xt, .inr (8, [.int 4, .int 32, .ref xts, .ref xtp])), (xts, .inl (cI g, 6, .inl (fun _ => (-1)))), (xf, .inl (cI g, 6, .inl (fun _ => 0))), (m0, .inr (12, [.int 0, .ref m0a1, .int 0, .long 0, .int 0, .ref m0a5, .ref m0a6, .ref m0a7, .ref m0a8, .ref m0a9, .int 0, .ref m0a11, .ref m0a12, .ref m0a13, .ref m0a14, .ref m0a15, .ref m0a16, .int 0, .ref m0a18, .ref m0a19, .ref m0a20, .ref m0a21, .ref m0a22, .int 0, .ref m0a24, .ref m0a25, .ref m0a26, .int 0, .ref m0a28, .ref m0a29, .ref m0a30, .ref m0a31, .int 0, .ref m0a33, .ref m0a34, .ref m0a35, .ref m0a36, .ref m0a37, .ref m0a38, .ref m0a39, .ref m0a40, .ref m0a41, .ref m0a42, .ref m0a43, .ref m0a44, .ref m0a45, .ref m0a46, .ref m0a47, .int 0, .ref m0a49, .ref m0a50, .ref m0a51, .int 0, .ref m0a53, .ref m0a54, .ref m0a55, .ref m0a56, .ref m0a57, .ref m0a58, .ref m0a59, .ref m0a60, .ref m0a61, .ref m0a62, .ref m0a63, .long 0, .int 0, .int (-9), .ref m0a67, .ref m0a68, .ref m0a69, .ref m0a70, .ref m0a71, .ref m0a72, .ref m0a73, .ref m0a74, .ref m0a75, .long 0])), (m0a1, .inl (cI g, 6, .inl (fun _ => 0))), (m0a8, .inl (cI g, 4, .inl (fun _ => (-9))))]) (hS : va_S (laA s) s.heap H locs) (hl : lv_has ls 4 [(3, .int 0), (2, .ref m0), (1, .ref x0), (0, .ref b)]) {Q : State → Prop} (kend : ∀ (H : Heap) (locs : List Loc) (ls : Array Slot), va_S (laA s) s.heap H locs → lv_has ls 4 [(0, .ref b), (3, .int 0)] → W p l e room_1 s m #[Value.ref b] below meth c H locs 141 11384 Q (F0 m 1955 ls [])) : W p l e room_1 s m #[Value.ref b] below meth c H locs 141 11384 Q (F0 m 502 ls []) := by
  have hx := X.1
  have hb := X.2.1
  have hml := X.2.2.1
  have hown := X.2.2.2.1
  have hts := X.2.2.2.2.1
  refine lv_aload_n hx hb dL_law_502 rfl (lv_at hl 2 rfl) ?_
  refine lv_aload_n hx hb dL_law_503 rfl (lv_at hl 3 rfl) ?_
  refine lv_iload_n hx hb dL_law_504 rfl (lv_at hl 0 rfl) ?_
  refine lv_iconst (v := 1) hx hb dL_law_505 (by decide) ?_
  refine lv_iadd hx hb dL_law_506 ?_
  refine lv_topk (v := 1) (by decide) ?_
  refine va_sld hx hb hX hbl hbA hS (by unfold vp_in; decide) dL_law_507 ?_
  refine lv_topk (v := scr 1) rfl ?_
  refine kVi (As := [.int (scr 1)]) (rest := []) (wr := [(m0, .inr (12, [.int 0, .ref m0a1, .int 0, .long 0, .int 0, .ref m0a5, .ref m0a6, .ref m0a7, .ref m0a8, .ref m0a9, .int 0, .ref m0a11, .ref m0a12, .ref m0a13, .ref m0a14, .ref m0a15, .ref m0a16, .int 0, .ref m0a18, .ref m0a19, .ref m0a20, .ref m0a21, .ref m0a22, .int 0, .ref m0a24, .ref m0a25, .ref m0a26, .int 0, .ref m0a28, .ref m0a29, .ref m0a30, .ref m0a31, .int 0, .ref m0a33, .ref m0a34, .ref m0a35, .ref m0a36, .ref m0a37, .ref m0a38, .ref m0a39, .ref m0a40, .ref m0a41, .ref m0a42, .ref m0a43, .ref m0a44, .ref m0a45, .ref m0a46, .ref m0a47, .int 0, .ref m0a49, .ref m0a50, .ref m0a51, .int 0, .ref m0a53, .ref m0a54, .ref m0a55, .ref m0a56, .ref m0a57, .ref m0a58, .ref m0a59, .ref m0a60, .ref m0a61, .ref m0a62, .ref m0a63, .long 0, .int 0, .int (-9), .ref m0a67, .ref m0a68, .ref m0a69, .ref m0a70, .ref m0a71, .ref m0a72, .ref m0a73, .ref m0a74, .ref m0a75, .long 0])), (m0a1, .inl (cI g, 6, .inl (fun _ => 0))), (m0a8, .inl (cI g, 4, .inl (fun _ => (-9))))]) X (c_X11_fault l g x0 (scr 1) xr xt xg xb xp xu xm xd xw xh xa xs xf xts xtp) ok_X11_fault okv_X11_fault q_586 rfl hK hP hD hS hA hZ hl.1 [0, 1, 2, 3] [4, 5, 6] rfl rfl rfl rfl rfl 0 11 rfl rfl rfl (Nat.le_of_ble_eq_true rfl) ⟨Nat.le_of_ble_eq_true rfl, Nat.le_of_ble_eq_true rfl⟩ dL_law_508 ⟨Nat.le_of_ble_eq_true rfl, Nat.le_of_ble_eq_true rfl⟩ (fun r_1 w1 H locs hw_2 hP hD hS => ?_)
  have hP := pSub hP (ws' := [(m0, .inr (12, [.int 0, .ref m0a1, .int 0, .long 0, .int 0, .ref m0a5, .ref m0a6, .ref m0a7, .ref m0a8, .ref m0a9, .int 0, .ref m0a11, .ref m0a12, .ref m0a13, .ref m0a14, .ref m0a15, .ref m0a16, .int 0, .ref m0a18, .ref m0a19, .ref m0a20, .ref m0a21, .ref m0a22, .int 0, .ref m0a24, .ref m0a25, .ref m0a26, .int 0, .ref m0a28, .ref m0a29, .ref m0a30, .ref m0a31, .int 0, .ref m0a33, .ref m0a34, .ref m0a35, .ref m0a36, .ref m0a37, .ref m0a38, .ref m0a39, .ref m0a40, .ref m0a41, .ref m0a42, .ref m0a43, .ref m0a44, .ref m0a45, .ref m0a46, .ref m0a47, .int 0, .ref m0a49, .ref m0a50, .ref m0a51, .int 0, .ref m0a53, .ref m0a54, .ref m0a55, .ref m0a56, .ref m0a57, .ref m0a58, .ref m0a59, .ref m0a60, .ref m0a61, .ref m0a62, .ref m0a63, .long 0, .int 0, .int (-9), .ref m0a67, .ref m0a68, .ref m0a69, .ref m0a70, .ref m0a71, .ref m0a72, .ref m0a73, .ref m0a74, .ref m0a75, .long 0])), (m0a1, .inl (cI g, 6, .inl (fun _ => 0))), (m0a8, .inl (cI g, 4, .inl (fun _ => (-9))))]) [0, 1, 2] rfl
  have hD := hD.sub (ws' := [(m0, .inr (12, [.int 0, .ref m0a1, .int 0, .long 0, .int 0, .ref m0a5, .ref m0a6, .ref m0a7, .ref m0a8, .ref m0a9, .int 0, .ref m0a11, .ref m0a12, .ref m0a13, .ref m0a14, .ref m0a15, .ref m0a16, .int 0, .ref m0a18, .ref m0a19, .ref m0a20, .ref m0a21, .ref m0a22, .int 0, .ref m0a24, .ref m0a25, .ref m0a26, .int 0, .ref m0a28, .ref m0a29, .ref m0a30, .ref m0a31, .int 0, .ref m0a33, .ref m0a34, .ref m0a35, .ref m0a36, .ref m0a37, .ref m0a38, .ref m0a39, .ref m0a40, .ref m0a41, .ref m0a42, .ref m0a43, .ref m0a44, .ref m0a45, .ref m0a46, .ref m0a47, .int 0, .ref m0a49, .ref m0a50, .ref m0a51, .int 0, .ref m0a53, .ref m0a54, .ref m0a55, .ref m0a56, .ref m0a57, .ref m0a58, .ref m0a59, .ref m0a60, .ref m0a61, .ref m0a62, .ref m0a63, .long 0, .int 0, .int (-9), .ref m0a67, .ref m0a68, .ref m0a69, .ref m0a70, .ref m0a71, .ref m0a72, .ref m0a73, .ref m0a74, .ref m0a75, .long 0])), (m0a1, .inl (cI g, 6, .inl (fun _ => 0))), (m0a8, .inl (cI g, 4, .inl (fun _ => (-9))))]) [0, 1, 2] rfl rfl
  refine lv_aload_n hx hb dL_law_511 rfl (lv_at hl 1 rfl) ?_
  refine lv_aload_n hx hb dL_law_512 rfl (lv_at hl 3 rfl) ?_
  refine lv_iload_n hx hb dL_law_513 rfl (lv_at hl 0 rfl) ?_
  refine lv_iconst (v := 1) hx hb dL_law_514 (by decide) ?_
  refine lv_iadd hx hb dL_law_515 ?_
  refine lv_topk (v := 1) (by decide) ?_
  refine va_sld hx hb hX hbl hbA hS (by unfold vp_in; decide) dL_law_516 ?_
  refine lv_topk (v := scr 1) rfl ?_
  refine kVi (As := [.int (scr 1)]) (rest := [.int r_1]) (wr := []) X (c_X12_fault l g m0 (scr 1) m0a1 m0a5 m0a6 m0a7 m0a8 m0a9 m0a11 m0a12 m0a13 m0a14 m0a15 m0a16 m0a18 m0a19 m0a20 m0a21 m0a22 m0a24 m0a25 m0a26 m0a28 m0a29 m0a30 m0a31 m0a33 m0a34 m0a35 m0a36 m0a37 m0a38 m0a39 m0a40 m0a41 m0a42 m0a43 m0a44 m0a45 m0a46 m0a47 m0a49 m0a50 m0a51 m0a53 m0a54 m0a55 m0a56 m0a57 m0a58 m0a59 m0a60 m0a61 m0a62 m0a63 m0a67 m0a68 m0a69 m0a70 m0a71 m0a72 m0a73 m0a74 m0a75) ok_X12_fault okv_X12_fault q_1747 rfl hK hP hD hS hA hZ hl.1 [0, 1, 2] [] rfl rfl rfl rfl rfl 0 12 rfl rfl rfl (Nat.le_of_ble_eq_true rfl) ⟨Nat.le_of_ble_eq_true rfl, Nat.le_of_ble_eq_true rfl⟩ dL_law_517 ⟨Nat.le_of_ble_eq_true rfl, Nat.le_of_ble_eq_true rfl⟩ (fun r_3 w1 H locs hw_4 hP hD hS => ?_)
  have hP := pSub hP (ws' := []) [] rfl
  have hD := hD.sub (ws' := []) [] rfl rfl
  refine lv_icmp_eq (tgt := 1955) hx hb dL_law_520 (by decide) (fun _ => ?_) (fun c => absurd (hw_2.trans ((eq_fault g x0 (scr 1) xr xt xg xb xp xu xm xd xw xh xa xs xf xts xtp m0 m0a1 m0a5 m0a6 m0a7 m0a8 m0a9 m0a11 m0a12 m0a13 m0a14 m0a15 m0a16 m0a18 m0a19 m0a20 m0a21 m0a22 m0a24 m0a25 m0a26 m0a28 m0a29 m0a30 m0a31 m0a33 m0a34 m0a35 m0a36 m0a37 m0a38 m0a39 m0a40 m0a41 m0a42 m0a43 m0a44 m0a45 m0a46 m0a47 m0a49 m0a50 m0a51 m0a53 m0a54 m0a55 m0a56 m0a57 m0a58 m0a59 m0a60 m0a61 m0a62 m0a63 m0a67 m0a68 m0a69 m0a70 m0a71 m0a72 m0a73 m0a74 m0a75).trans hw_4.symm)) c)
  exact kend _ _ _ hS (lv_sub hl [3, 0] rfl)
set_option maxHeartbeats 4000000 in
set_option maxRecDepth 100000 in
theorem law_7 (l : Launch) (g : GG) {p : Program} {e : Env} {s : State} {m : MethodId} {below : List Frame} {meth : Method} {c : Code} {b : Nat} {scr : Nat → Int32} (X : En p s m #[Value.ref b] meth c cL_law 4 ret R_law meth.name) (hK : va_K g.1 classes (tyG g) s) (hA : ∀ q, s.heap.size ≤ q → laA s q) (hZ : stS g (laA s) s s.heap) (hX : va_X b 6 scr s s.heap) (hbl : b < s.heap.size) (hbA : ¬ laA s b) (x0 : Nat) (xr : Nat) (xt : Nat) (xg : Nat) (xb : Nat) (xp : Nat) (xu : Nat) (xm : Nat) (xd : Nat) (xw : Nat) (xh : Nat) (xa : Nat) (xs : Nat) (xf : Nat) (m0 : Nat) (m0a1 : Nat) (m0a5 : Nat) (m0a6 : Nat) (m0a7 : Nat) (m0a8 : Nat) (m0a9 : Nat) (m0a11 : Nat) (m0a12 : Nat) (m0a13 : Nat) (m0a14 : Nat) (m0a15 : Nat) (m0a16 : Nat) (m0a18 : Nat) (m0a19 : Nat) (m0a20 : Nat) (m0a21 : Nat) (m0a22 : Nat) (m0a24 : Nat) (m0a25 : Nat) (m0a26 : Nat) (m0a28 : Nat) (m0a29 : Nat) (m0a30 : Nat) (m0a31 : Nat) (m0a33 : Nat) (m0a34 : Nat) (m0a35 : Nat) (m0a36 : Nat) (m0a37 : Nat) (m0a38 : Nat) (m0a39 : Nat) (m0a40 : Nat) (m0a41 : Nat) (m0a42 : Nat) (m0a43 : Nat) (m0a44 : Nat) (m0a45 : Nat) (m0a46 : Nat) (m0a47 : Nat) (m0a49 : Nat) (m0a50 : Nat) (m0a51 : Nat) (m0a53 : Nat) (m0a54 : Nat) (m0a55 : Nat) (m0a56 : Nat) (m0a57 : Nat) (m0a58 : Nat) (m0a59 : Nat) (m0a60 : Nat) (m0a61 : Nat) (m0a62 : Nat) (m0a63 : Nat) (m0a67 : Nat) (m0a68 : Nat) (m0a69 : Nat) (m0a70 : Nat) (m0a71 : Nat) (m0a72 : Nat) (m0a73 : Nat) (m0a74 : Nat) (m0a75 : Nat) {H : Heap} {locs : List Loc} {ls : Array Slot} (hP : va_P g.1 classes [(x0, .inr (11, [.ref xr, .ref xt, .ref xg, .ref xb, .ref xp, .ref xu, .ref xm, .ref xd, .ref xw, .ref xh, .ref xa, .ref xs, .ref xf, .int 0, .int 0, .long 0, .long 0, .int 0])), (m0, .inr (12, [.int 0, .ref m0a1, .int 0, .long 0, .int 0, .ref m0a5, .ref m0a6, .ref m0a7, .ref m0a8, .ref m0a9, .int 0, .ref m0a11, .ref m0a12, .ref m0a13, .ref m0a14, .ref m0a15, .ref m0a16, .int 0, .ref m0a18, .ref m0a19, .ref m0a20, .ref m0a21, .ref m0a22, .int 0, .ref m0a24, .ref m0a25, .ref m0a26, .int 0, .ref m0a28, .ref m0a29, .ref m0a30, .ref m0a31, .int 0, .ref m0a33, .ref m0a34, .ref m0a35, .ref m0a36, .ref m0a37, .ref m0a38, .ref m0a39, .ref m0a40, .ref m0a41, .ref m0a42, .ref m0a43, .ref m0a44, .ref m0a45, .ref m0a46, .ref m0a47, .int 0, .ref m0a49, .ref m0a50, .ref m0a51, .int 0, .ref m0a53, .ref m0a54, .ref m0a55, .ref m0a56, .ref m0a57, .ref m0a58, .ref m0a59, .ref m0a60, .ref m0a61, .ref m0a62, .ref m0a63, .long 0, .int 0, .int (-9), .ref m0a67, .ref m0a68, .ref m0a69, .ref m0a70, .ref m0a71, .ref m0a72, .ref m0a73, .ref m0a74, .ref m0a75, .long 0]))] H) (hD : va_D (laA s) [(x0, .inr (11, [.ref xr, .ref xt, .ref xg, .ref xb, .ref xp, .ref xu, .ref xm, .ref xd, .ref xw, .ref xh, .ref xa, .ref xs, .ref xf, .int 0, .int 0, .long 0, .long 0, .int 0])), (m0, .inr (12, [.int 0, .ref m0a1, .int 0, .long 0, .int 0, .ref m0a5, .ref m0a6, .ref m0a7, .ref m0a8, .ref m0a9, .int 0, .ref m0a11, .ref m0a12, .ref m0a13, .ref m0a14, .ref m0a15, .ref m0a16, .int 0, .ref m0a18, .ref m0a19, .ref m0a20, .ref m0a21, .ref m0a22, .int 0, .ref m0a24, .ref m0a25, .ref m0a26, .int 0, .ref m0a28, .ref m0a29, .ref m0a30, .ref m0a31, .int 0, .ref m0a33, .ref m0a34, .ref m0a35, .ref m0a36, .ref m0a37, .ref m0a38, .ref m0a39, .ref m0a40, .ref m0a41, .ref m0a42, .ref m0a43, .ref m0a44, .ref m0a45, .ref m0a46, .ref m0a47, .int 0, .ref m0a49, .ref m0a50, .ref m0a51, .int 0, .ref m0a53, .ref m0a54, .ref m0a55, .ref m0a56, .ref m0a57, .ref m0a58, .ref m0a59, .ref m0a60, .ref m0a61, .ref m0a62, .ref m0a63, .long 0, .int 0, .int (-9), .ref m0a67, .ref m0a68, .ref m0a69, .ref m0a70, .ref m0a71, .ref m0a72, .ref m0a73, .ref m0a74, .ref m0a75, .long 0]))]) (hS : va_S (laA s) s.heap H locs) (hl : lv_has ls 4 [(3, .int 0), (2, .ref m0), (1, .ref x0), (0, .ref b)]) {Q : State → Prop} (kend : ∀ (H : Heap) (locs : List Loc) (ls : Array Slot), va_S (laA s) s.heap H locs → lv_has ls 4 [(0, .ref b), (3, .int 0)] → W p l e room_1 s m #[Value.ref b] below meth c H locs 141 11384 Q (F0 m 1955 ls [])) : W p l e room_1 s m #[Value.ref b] below meth c H locs 141 11384 Q (F0 m 525 ls []) := by
  have hx := X.1
  have hb := X.2.1
  have hml := X.2.2.1
  have hown := X.2.2.2.1
  have hts := X.2.2.2.2.1
  refine lv_aload_n hx hb dL_law_525 rfl (lv_at hl 2 rfl) ?_
  refine lv_aload_n hx hb dL_law_526 rfl (lv_at hl 3 rfl) ?_
  refine lv_iload_n hx hb dL_law_527 rfl (lv_at hl 0 rfl) ?_
  refine lv_iconst (v := 1) hx hb dL_law_528 (by decide) ?_
  refine lv_iadd hx hb dL_law_529 ?_
  refine lv_topk (v := 1) (by decide) ?_
  refine va_sld hx hb hX hbl hbA hS (by unfold vp_in; decide) dL_law_530 ?_
  refine lv_topk (v := scr 1) rfl ?_
  refine kVi (As := [.int (scr 1)]) (rest := []) (wr := [(m0, .inr (12, [.int 0, .ref m0a1, .int 0, .long 0, .int 0, .ref m0a5, .ref m0a6, .ref m0a7, .ref m0a8, .ref m0a9, .int 0, .ref m0a11, .ref m0a12, .ref m0a13, .ref m0a14, .ref m0a15, .ref m0a16, .int 0, .ref m0a18, .ref m0a19, .ref m0a20, .ref m0a21, .ref m0a22, .int 0, .ref m0a24, .ref m0a25, .ref m0a26, .int 0, .ref m0a28, .ref m0a29, .ref m0a30, .ref m0a31, .int 0, .ref m0a33, .ref m0a34, .ref m0a35, .ref m0a36, .ref m0a37, .ref m0a38, .ref m0a39, .ref m0a40, .ref m0a41, .ref m0a42, .ref m0a43, .ref m0a44, .ref m0a45, .ref m0a46, .ref m0a47, .int 0, .ref m0a49, .ref m0a50, .ref m0a51, .int 0, .ref m0a53, .ref m0a54, .ref m0a55, .ref m0a56, .ref m0a57, .ref m0a58, .ref m0a59, .ref m0a60, .ref m0a61, .ref m0a62, .ref m0a63, .long 0, .int 0, .int (-9), .ref m0a67, .ref m0a68, .ref m0a69, .ref m0a70, .ref m0a71, .ref m0a72, .ref m0a73, .ref m0a74, .ref m0a75, .long 0]))]) X (c_X11_later l g x0 (scr 1) xr xt xg xb xp xu xm xd xw xh xa xs xf) ok_X11_later okv_X11_later q_613 rfl hK hP hD hS hA hZ hl.1 [0] [1] rfl rfl rfl rfl rfl 0 11 rfl rfl rfl (Nat.le_of_ble_eq_true rfl) ⟨Nat.le_of_ble_eq_true rfl, Nat.le_of_ble_eq_true rfl⟩ dL_law_531 ⟨Nat.le_of_ble_eq_true rfl, Nat.le_of_ble_eq_true rfl⟩ (fun r_1 w1 H locs hw_2 hP hD hS => ?_)
  have hP := pSub hP (ws' := [(m0, .inr (12, [.int 0, .ref m0a1, .int 0, .long 0, .int 0, .ref m0a5, .ref m0a6, .ref m0a7, .ref m0a8, .ref m0a9, .int 0, .ref m0a11, .ref m0a12, .ref m0a13, .ref m0a14, .ref m0a15, .ref m0a16, .int 0, .ref m0a18, .ref m0a19, .ref m0a20, .ref m0a21, .ref m0a22, .int 0, .ref m0a24, .ref m0a25, .ref m0a26, .int 0, .ref m0a28, .ref m0a29, .ref m0a30, .ref m0a31, .int 0, .ref m0a33, .ref m0a34, .ref m0a35, .ref m0a36, .ref m0a37, .ref m0a38, .ref m0a39, .ref m0a40, .ref m0a41, .ref m0a42, .ref m0a43, .ref m0a44, .ref m0a45, .ref m0a46, .ref m0a47, .int 0, .ref m0a49, .ref m0a50, .ref m0a51, .int 0, .ref m0a53, .ref m0a54, .ref m0a55, .ref m0a56, .ref m0a57, .ref m0a58, .ref m0a59, .ref m0a60, .ref m0a61, .ref m0a62, .ref m0a63, .long 0, .int 0, .int (-9), .ref m0a67, .ref m0a68, .ref m0a69, .ref m0a70, .ref m0a71, .ref m0a72, .ref m0a73, .ref m0a74, .ref m0a75, .long 0]))]) [0] rfl
  have hD := hD.sub (ws' := [(m0, .inr (12, [.int 0, .ref m0a1, .int 0, .long 0, .int 0, .ref m0a5, .ref m0a6, .ref m0a7, .ref m0a8, .ref m0a9, .int 0, .ref m0a11, .ref m0a12, .ref m0a13, .ref m0a14, .ref m0a15, .ref m0a16, .int 0, .ref m0a18, .ref m0a19, .ref m0a20, .ref m0a21, .ref m0a22, .int 0, .ref m0a24, .ref m0a25, .ref m0a26, .int 0, .ref m0a28, .ref m0a29, .ref m0a30, .ref m0a31, .int 0, .ref m0a33, .ref m0a34, .ref m0a35, .ref m0a36, .ref m0a37, .ref m0a38, .ref m0a39, .ref m0a40, .ref m0a41, .ref m0a42, .ref m0a43, .ref m0a44, .ref m0a45, .ref m0a46, .ref m0a47, .int 0, .ref m0a49, .ref m0a50, .ref m0a51, .int 0, .ref m0a53, .ref m0a54, .ref m0a55, .ref m0a56, .ref m0a57, .ref m0a58, .ref m0a59, .ref m0a60, .ref m0a61, .ref m0a62, .ref m0a63, .long 0, .int 0, .int (-9), .ref m0a67, .ref m0a68, .ref m0a69, .ref m0a70, .ref m0a71, .ref m0a72, .ref m0a73, .ref m0a74, .ref m0a75, .long 0]))]) [0] rfl rfl
  refine lv_aload_n hx hb dL_law_534 rfl (lv_at hl 1 rfl) ?_
  refine lv_aload_n hx hb dL_law_535 rfl (lv_at hl 3 rfl) ?_
  refine lv_iload_n hx hb dL_law_536 rfl (lv_at hl 0 rfl) ?_
  refine lv_iconst (v := 1) hx hb dL_law_537 (by decide) ?_
  refine lv_iadd hx hb dL_law_538 ?_
  refine lv_topk (v := 1) (by decide) ?_
  refine va_sld hx hb hX hbl hbA hS (by unfold vp_in; decide) dL_law_539 ?_
  refine lv_topk (v := scr 1) rfl ?_
  refine kVi (As := [.int (scr 1)]) (rest := [.int r_1]) (wr := []) X (c_X12_later l g m0 (scr 1) m0a1 m0a5 m0a6 m0a7 m0a8 m0a9 m0a11 m0a12 m0a13 m0a14 m0a15 m0a16 m0a18 m0a19 m0a20 m0a21 m0a22 m0a24 m0a25 m0a26 m0a28 m0a29 m0a30 m0a31 m0a33 m0a34 m0a35 m0a36 m0a37 m0a38 m0a39 m0a40 m0a41 m0a42 m0a43 m0a44 m0a45 m0a46 m0a47 m0a49 m0a50 m0a51 m0a53 m0a54 m0a55 m0a56 m0a57 m0a58 m0a59 m0a60 m0a61 m0a62 m0a63 m0a67 m0a68 m0a69 m0a70 m0a71 m0a72 m0a73 m0a74 m0a75) ok_X12_later okv_X12_later q_1743 rfl hK hP hD hS hA hZ hl.1 [0] [] rfl rfl rfl rfl rfl 0 12 rfl rfl rfl (Nat.le_of_ble_eq_true rfl) ⟨Nat.le_of_ble_eq_true rfl, Nat.le_of_ble_eq_true rfl⟩ dL_law_540 ⟨Nat.le_of_ble_eq_true rfl, Nat.le_of_ble_eq_true rfl⟩ (fun r_3 w1 H locs hw_4 hP hD hS => ?_)
  have hP := pSub hP (ws' := []) [] rfl
  have hD := hD.sub (ws' := []) [] rfl rfl
  refine lv_icmp_eq (tgt := 1955) hx hb dL_law_543 (by decide) (fun _ => ?_) (fun c => absurd (hw_2.trans ((eq_later g x0 (scr 1) xr xt xg xb xp xu xm xd xw xh xa xs xf m0 m0a1 m0a5 m0a6 m0a7 m0a8 m0a9 m0a11 m0a12 m0a13 m0a14 m0a15 m0a16 m0a18 m0a19 m0a20 m0a21 m0a22 m0a24 m0a25 m0a26 m0a28 m0a29 m0a30 m0a31 m0a33 m0a34 m0a35 m0a36 m0a37 m0a38 m0a39 m0a40 m0a41 m0a42 m0a43 m0a44 m0a45 m0a46 m0a47 m0a49 m0a50 m0a51 m0a53 m0a54 m0a55 m0a56 m0a57 m0a58 m0a59 m0a60 m0a61 m0a62 m0a63 m0a67 m0a68 m0a69 m0a70 m0a71 m0a72 m0a73 m0a74 m0a75).trans hw_4.symm)) c)
  exact kend _ _ _ hS (lv_sub hl [3, 0] rfl)
set_option maxHeartbeats 4000000 in
set_option maxRecDepth 100000 in
theorem law_8 (l : Launch) (g : GG) {p : Program} {e : Env} {s : State} {m : MethodId} {below : List Frame} {meth : Method} {c : Code} {b : Nat} {scr : Nat → Int32} (X : En p s m #[Value.ref b] meth c cL_law 4 ret R_law meth.name) (hK : va_K g.1 classes (tyG g) s) (hA : ∀ q, s.heap.size ≤ q → laA s q) (hZ : stS g (laA s) s s.heap) (hX : va_X b 6 scr s s.heap) (hbl : b < s.heap.size) (hbA : ¬ laA s b) (x0 : Nat) (xr : Nat) (xt : Nat) (xg : Nat) (xb : Nat) (xp : Nat) (xu : Nat) (xm : Nat) (xd : Nat) (xw : Nat) (xh : Nat) (xa : Nat) (xs : Nat) (xf : Nat) (xgs : Nat) (xgh : Nat) (xba0 : Nat) (xba1 : Nat) (xba2 : Nat) (xba3 : Nat) (xba4 : Nat) (xba5 : Nat) (xba6 : Nat) (xba7 : Nat) (xba8 : Nat) (xba9 : Nat) (xba10 : Nat) (xba11 : Nat) (m0 : Nat) (m0a1 : Nat) (m0a5 : Nat) (m0a6 : Nat) (m0a7 : Nat) (m0a8 : Nat) (m0a9 : Nat) (m0a11 : Nat) (m0a12 : Nat) (m0a13 : Nat) (m0a14 : Nat) (m0a15 : Nat) (m0a16 : Nat) (m0a18 : Nat) (m0a19 : Nat) (m0a20 : Nat) (m0a21 : Nat) (m0a22 : Nat) (m0a24 : Nat) (m0a25 : Nat) (m0a26 : Nat) (m0a28 : Nat) (m0a29 : Nat) (m0a30 : Nat) (m0a31 : Nat) (m0a33 : Nat) (m0a34 : Nat) (m0a35 : Nat) (m0a36 : Nat) (m0a37 : Nat) (m0a38 : Nat) (m0a39 : Nat) (m0a40 : Nat) (m0a41 : Nat) (m0a42 : Nat) (m0a43 : Nat) (m0a44 : Nat) (m0a45 : Nat) (m0a46 : Nat) (m0a47 : Nat) (m0a49 : Nat) (m0a50 : Nat) (m0a51 : Nat) (m0a53 : Nat) (m0a54 : Nat) (m0a55 : Nat) (m0a56 : Nat) (m0a57 : Nat) (m0a58 : Nat) (m0a59 : Nat) (m0a60 : Nat) (m0a61 : Nat) (m0a62 : Nat) (m0a63 : Nat) (m0a67 : Nat) (m0a68 : Nat) (m0a69 : Nat) (m0a70 : Nat) (m0a71 : Nat) (m0a72 : Nat) (m0a73 : Nat) (m0a74 : Nat) (m0a75 : Nat) {H : Heap} {locs : List Loc} {ls : Array Slot} (hP : va_P g.1 classes [(x0, .inr (11, [.ref xr, .ref xt, .ref xg, .ref xb, .ref xp, .ref xu, .ref xm, .ref xd, .ref xw, .ref xh, .ref xa, .ref xs, .ref xf, .int 0, .int 0, .long 0, .long 0, .int 0])), (xg, .inr (3, [.ref xgs, .ref xgh])), (xgs, .inl (cI g, 64, .inl (fun _ => 0))), (xgh, .inl (cI g, 64, .inl (fun _ => 0))), (xb, .inr (1, [.ref xba0, .ref xba1, .ref xba2, .ref xba3, .ref xba4, .ref xba5, .ref xba6, .ref xba7, .ref xba8, .ref xba9, .ref xba10, .ref xba11, .int 0, .int 0])), (xba7, .inl (cI g, 64, .inl (fun _ => (-9)))), (m0, .inr (12, [.int 0, .ref m0a1, .int 0, .long 0, .int 0, .ref m0a5, .ref m0a6, .ref m0a7, .ref m0a8, .ref m0a9, .int 0, .ref m0a11, .ref m0a12, .ref m0a13, .ref m0a14, .ref m0a15, .ref m0a16, .int 0, .ref m0a18, .ref m0a19, .ref m0a20, .ref m0a21, .ref m0a22, .int 0, .ref m0a24, .ref m0a25, .ref m0a26, .int 0, .ref m0a28, .ref m0a29, .ref m0a30, .ref m0a31, .int 0, .ref m0a33, .ref m0a34, .ref m0a35, .ref m0a36, .ref m0a37, .ref m0a38, .ref m0a39, .ref m0a40, .ref m0a41, .ref m0a42, .ref m0a43, .ref m0a44, .ref m0a45, .ref m0a46, .ref m0a47, .int 0, .ref m0a49, .ref m0a50, .ref m0a51, .int 0, .ref m0a53, .ref m0a54, .ref m0a55, .ref m0a56, .ref m0a57, .ref m0a58, .ref m0a59, .ref m0a60, .ref m0a61, .ref m0a62, .ref m0a63, .long 0, .int 0, .int (-9), .ref m0a67, .ref m0a68, .ref m0a69, .ref m0a70, .ref m0a71, .ref m0a72, .ref m0a73, .ref m0a74, .ref m0a75, .long 0])), (m0a15, .inl (cI g, 64, .inl (fun _ => 0))), (m0a16, .inl (cI g, 64, .inl (fun _ => 0)))] H) (hD : va_D (laA s) [(x0, .inr (11, [.ref xr, .ref xt, .ref xg, .ref xb, .ref xp, .ref xu, .ref xm, .ref xd, .ref xw, .ref xh, .ref xa, .ref xs, .ref xf, .int 0, .int 0, .long 0, .long 0, .int 0])), (xg, .inr (3, [.ref xgs, .ref xgh])), (xgs, .inl (cI g, 64, .inl (fun _ => 0))), (xgh, .inl (cI g, 64, .inl (fun _ => 0))), (xb, .inr (1, [.ref xba0, .ref xba1, .ref xba2, .ref xba3, .ref xba4, .ref xba5, .ref xba6, .ref xba7, .ref xba8, .ref xba9, .ref xba10, .ref xba11, .int 0, .int 0])), (xba7, .inl (cI g, 64, .inl (fun _ => (-9)))), (m0, .inr (12, [.int 0, .ref m0a1, .int 0, .long 0, .int 0, .ref m0a5, .ref m0a6, .ref m0a7, .ref m0a8, .ref m0a9, .int 0, .ref m0a11, .ref m0a12, .ref m0a13, .ref m0a14, .ref m0a15, .ref m0a16, .int 0, .ref m0a18, .ref m0a19, .ref m0a20, .ref m0a21, .ref m0a22, .int 0, .ref m0a24, .ref m0a25, .ref m0a26, .int 0, .ref m0a28, .ref m0a29, .ref m0a30, .ref m0a31, .int 0, .ref m0a33, .ref m0a34, .ref m0a35, .ref m0a36, .ref m0a37, .ref m0a38, .ref m0a39, .ref m0a40, .ref m0a41, .ref m0a42, .ref m0a43, .ref m0a44, .ref m0a45, .ref m0a46, .ref m0a47, .int 0, .ref m0a49, .ref m0a50, .ref m0a51, .int 0, .ref m0a53, .ref m0a54, .ref m0a55, .ref m0a56, .ref m0a57, .ref m0a58, .ref m0a59, .ref m0a60, .ref m0a61, .ref m0a62, .ref m0a63, .long 0, .int 0, .int (-9), .ref m0a67, .ref m0a68, .ref m0a69, .ref m0a70, .ref m0a71, .ref m0a72, .ref m0a73, .ref m0a74, .ref m0a75, .long 0])), (m0a15, .inl (cI g, 64, .inl (fun _ => 0))), (m0a16, .inl (cI g, 64, .inl (fun _ => 0)))]) (hS : va_S (laA s) s.heap H locs) (hl : lv_has ls 4 [(3, .int 0), (2, .ref m0), (1, .ref x0), (0, .ref b)]) {Q : State → Prop} (kend : ∀ (H : Heap) (locs : List Loc) (ls : Array Slot), va_S (laA s) s.heap H locs → lv_has ls 4 [(0, .ref b), (3, .int 0)] → W p l e room_1 s m #[Value.ref b] below meth c H locs 141 11384 Q (F0 m 1955 ls [])) : W p l e room_1 s m #[Value.ref b] below meth c H locs 141 11384 Q (F0 m 548 ls []) := by
  have hx := X.1
  have hb := X.2.1
  have hml := X.2.2.1
  have hown := X.2.2.2.1
  have hts := X.2.2.2.2.1
  refine lv_aload_n hx hb dL_law_548 rfl (lv_at hl 2 rfl) ?_
  refine lv_aload_n hx hb dL_law_549 rfl (lv_at hl 3 rfl) ?_
  refine lv_iload_n hx hb dL_law_550 rfl (lv_at hl 0 rfl) ?_
  refine lv_iconst (v := 1) hx hb dL_law_551 (by decide) ?_
  refine lv_iadd hx hb dL_law_552 ?_
  refine lv_topk (v := 1) (by decide) ?_
  refine va_sld hx hb hX hbl hbA hS (by unfold vp_in; decide) dL_law_553 ?_
  refine lv_topk (v := scr 1) rfl ?_
  refine lv_aload_n hx hb dL_law_554 rfl (lv_at hl 3 rfl) ?_
  refine lv_iload_n hx hb dL_law_555 rfl (lv_at hl 0 rfl) ?_
  refine lv_iconst (v := 2) hx hb dL_law_556 (by decide) ?_
  refine lv_iadd hx hb dL_law_557 ?_
  refine lv_topk (v := 2) (by decide) ?_
  refine va_sld hx hb hX hbl hbA hS (by unfold vp_in; decide) dL_law_558 ?_
  refine lv_topk (v := scr 2) rfl ?_
  refine lv_aload_n hx hb dL_law_559 rfl (lv_at hl 3 rfl) ?_
  refine lv_iload_n hx hb dL_law_560 rfl (lv_at hl 0 rfl) ?_
  refine lv_iconst (v := 3) hx hb dL_law_561 (by decide) ?_
  refine lv_iadd hx hb dL_law_562 ?_
  refine lv_topk (v := 3) (by decide) ?_
  refine va_sld hx hb hX hbl hbA hS (by unfold vp_in; decide) dL_law_563 ?_
  refine lv_topk (v := scr 3) rfl ?_
  refine kVi (As := [.int (scr 1), .int (scr 2), .int (scr 3)]) (rest := []) (wr := [(m0, .inr (12, [.int 0, .ref m0a1, .int 0, .long 0, .int 0, .ref m0a5, .ref m0a6, .ref m0a7, .ref m0a8, .ref m0a9, .int 0, .ref m0a11, .ref m0a12, .ref m0a13, .ref m0a14, .ref m0a15, .ref m0a16, .int 0, .ref m0a18, .ref m0a19, .ref m0a20, .ref m0a21, .ref m0a22, .int 0, .ref m0a24, .ref m0a25, .ref m0a26, .int 0, .ref m0a28, .ref m0a29, .ref m0a30, .ref m0a31, .int 0, .ref m0a33, .ref m0a34, .ref m0a35, .ref m0a36, .ref m0a37, .ref m0a38, .ref m0a39, .ref m0a40, .ref m0a41, .ref m0a42, .ref m0a43, .ref m0a44, .ref m0a45, .ref m0a46, .ref m0a47, .int 0, .ref m0a49, .ref m0a50, .ref m0a51, .int 0, .ref m0a53, .ref m0a54, .ref m0a55, .ref m0a56, .ref m0a57, .ref m0a58, .ref m0a59, .ref m0a60, .ref m0a61, .ref m0a62, .ref m0a63, .long 0, .int 0, .int (-9), .ref m0a67, .ref m0a68, .ref m0a69, .ref m0a70, .ref m0a71, .ref m0a72, .ref m0a73, .ref m0a74, .ref m0a75, .long 0])), (m0a15, .inl (cI g, 64, .inl (fun _ => 0))), (m0a16, .inl (cI g, 64, .inl (fun _ => 0)))]) X (c_X11_cell l g x0 (scr 1) (scr 2) (scr 3) xr xt xg xb xp xu xm xd xw xh xa xs xf xgs xgh xba0 xba1 xba2 xba3 xba4 xba5 xba6 xba7 xba8 xba9 xba10 xba11) ok_X11_cell okv_X11_cell q_617 rfl hK hP hD hS hA hZ hl.1 [0, 1, 2, 3, 4, 5] [6, 7, 8] rfl rfl rfl rfl rfl 0 11 rfl rfl rfl (Nat.le_of_ble_eq_true rfl) ⟨Nat.le_of_ble_eq_true rfl, Nat.le_of_ble_eq_true rfl⟩ dL_law_564 ⟨Nat.le_of_ble_eq_true rfl, Nat.le_of_ble_eq_true rfl⟩ (fun r_1 w1 H locs hw_2 hP hD hS => ?_)
  have hP := pSub hP (ws' := [(m0, .inr (12, [.int 0, .ref m0a1, .int 0, .long 0, .int 0, .ref m0a5, .ref m0a6, .ref m0a7, .ref m0a8, .ref m0a9, .int 0, .ref m0a11, .ref m0a12, .ref m0a13, .ref m0a14, .ref m0a15, .ref m0a16, .int 0, .ref m0a18, .ref m0a19, .ref m0a20, .ref m0a21, .ref m0a22, .int 0, .ref m0a24, .ref m0a25, .ref m0a26, .int 0, .ref m0a28, .ref m0a29, .ref m0a30, .ref m0a31, .int 0, .ref m0a33, .ref m0a34, .ref m0a35, .ref m0a36, .ref m0a37, .ref m0a38, .ref m0a39, .ref m0a40, .ref m0a41, .ref m0a42, .ref m0a43, .ref m0a44, .ref m0a45, .ref m0a46, .ref m0a47, .int 0, .ref m0a49, .ref m0a50, .ref m0a51, .int 0, .ref m0a53, .ref m0a54, .ref m0a55, .ref m0a56, .ref m0a57, .ref m0a58, .ref m0a59, .ref m0a60, .ref m0a61, .ref m0a62, .ref m0a63, .long 0, .int 0, .int (-9), .ref m0a67, .ref m0a68, .ref m0a69, .ref m0a70, .ref m0a71, .ref m0a72, .ref m0a73, .ref m0a74, .ref m0a75, .long 0])), (m0a15, .inl (cI g, 64, .inl (fun _ => 0))), (m0a16, .inl (cI g, 64, .inl (fun _ => 0)))]) [0, 1, 2] rfl
  have hD := hD.sub (ws' := [(m0, .inr (12, [.int 0, .ref m0a1, .int 0, .long 0, .int 0, .ref m0a5, .ref m0a6, .ref m0a7, .ref m0a8, .ref m0a9, .int 0, .ref m0a11, .ref m0a12, .ref m0a13, .ref m0a14, .ref m0a15, .ref m0a16, .int 0, .ref m0a18, .ref m0a19, .ref m0a20, .ref m0a21, .ref m0a22, .int 0, .ref m0a24, .ref m0a25, .ref m0a26, .int 0, .ref m0a28, .ref m0a29, .ref m0a30, .ref m0a31, .int 0, .ref m0a33, .ref m0a34, .ref m0a35, .ref m0a36, .ref m0a37, .ref m0a38, .ref m0a39, .ref m0a40, .ref m0a41, .ref m0a42, .ref m0a43, .ref m0a44, .ref m0a45, .ref m0a46, .ref m0a47, .int 0, .ref m0a49, .ref m0a50, .ref m0a51, .int 0, .ref m0a53, .ref m0a54, .ref m0a55, .ref m0a56, .ref m0a57, .ref m0a58, .ref m0a59, .ref m0a60, .ref m0a61, .ref m0a62, .ref m0a63, .long 0, .int 0, .int (-9), .ref m0a67, .ref m0a68, .ref m0a69, .ref m0a70, .ref m0a71, .ref m0a72, .ref m0a73, .ref m0a74, .ref m0a75, .long 0])), (m0a15, .inl (cI g, 64, .inl (fun _ => 0))), (m0a16, .inl (cI g, 64, .inl (fun _ => 0)))]) [0, 1, 2] rfl rfl
  refine lv_aload_n hx hb dL_law_567 rfl (lv_at hl 1 rfl) ?_
  refine lv_aload_n hx hb dL_law_568 rfl (lv_at hl 3 rfl) ?_
  refine lv_iload_n hx hb dL_law_569 rfl (lv_at hl 0 rfl) ?_
  refine lv_iconst (v := 1) hx hb dL_law_570 (by decide) ?_
  refine lv_iadd hx hb dL_law_571 ?_
  refine lv_topk (v := 1) (by decide) ?_
  refine va_sld hx hb hX hbl hbA hS (by unfold vp_in; decide) dL_law_572 ?_
  refine lv_topk (v := scr 1) rfl ?_
  refine lv_aload_n hx hb dL_law_573 rfl (lv_at hl 3 rfl) ?_
  refine lv_iload_n hx hb dL_law_574 rfl (lv_at hl 0 rfl) ?_
  refine lv_iconst (v := 2) hx hb dL_law_575 (by decide) ?_
  refine lv_iadd hx hb dL_law_576 ?_
  refine lv_topk (v := 2) (by decide) ?_
  refine va_sld hx hb hX hbl hbA hS (by unfold vp_in; decide) dL_law_577 ?_
  refine lv_topk (v := scr 2) rfl ?_
  refine lv_aload_n hx hb dL_law_578 rfl (lv_at hl 3 rfl) ?_
  refine lv_iload_n hx hb dL_law_579 rfl (lv_at hl 0 rfl) ?_
  refine lv_iconst (v := 3) hx hb dL_law_580 (by decide) ?_
  refine lv_iadd hx hb dL_law_581 ?_
  refine lv_topk (v := 3) (by decide) ?_
  refine va_sld hx hb hX hbl hbA hS (by unfold vp_in; decide) dL_law_582 ?_
  refine lv_topk (v := scr 3) rfl ?_
  refine kVi (As := [.int (scr 1), .int (scr 2), .int (scr 3)]) (rest := [.int r_1]) (wr := []) X (c_X12_cell l g m0 (scr 1) (scr 2) (scr 3) m0a1 m0a5 m0a6 m0a7 m0a8 m0a9 m0a11 m0a12 m0a13 m0a14 m0a15 m0a16 m0a18 m0a19 m0a20 m0a21 m0a22 m0a24 m0a25 m0a26 m0a28 m0a29 m0a30 m0a31 m0a33 m0a34 m0a35 m0a36 m0a37 m0a38 m0a39 m0a40 m0a41 m0a42 m0a43 m0a44 m0a45 m0a46 m0a47 m0a49 m0a50 m0a51 m0a53 m0a54 m0a55 m0a56 m0a57 m0a58 m0a59 m0a60 m0a61 m0a62 m0a63 m0a67 m0a68 m0a69 m0a70 m0a71 m0a72 m0a73 m0a74 m0a75) ok_X12_cell okv_X12_cell q_1784 rfl hK hP hD hS hA hZ hl.1 [0, 1, 2] [] rfl rfl rfl rfl rfl 0 12 rfl rfl rfl (Nat.le_of_ble_eq_true rfl) ⟨Nat.le_of_ble_eq_true rfl, Nat.le_of_ble_eq_true rfl⟩ dL_law_583 ⟨Nat.le_of_ble_eq_true rfl, Nat.le_of_ble_eq_true rfl⟩ (fun r_3 w1 H locs hw_4 hP hD hS => ?_)
  have hP := pSub hP (ws' := []) [] rfl
  have hD := hD.sub (ws' := []) [] rfl rfl
  refine lv_icmp_eq (tgt := 1955) hx hb dL_law_586 (by decide) (fun _ => ?_) (fun c => absurd (hw_2.trans ((eq_cell g x0 (scr 1) (scr 2) (scr 3) xr xt xg xb xp xu xm xd xw xh xa xs xf xgs xgh xba0 xba1 xba2 xba3 xba4 xba5 xba6 xba7 xba8 xba9 xba10 xba11 m0 m0a1 m0a5 m0a6 m0a7 m0a8 m0a9 m0a11 m0a12 m0a13 m0a14 m0a15 m0a16 m0a18 m0a19 m0a20 m0a21 m0a22 m0a24 m0a25 m0a26 m0a28 m0a29 m0a30 m0a31 m0a33 m0a34 m0a35 m0a36 m0a37 m0a38 m0a39 m0a40 m0a41 m0a42 m0a43 m0a44 m0a45 m0a46 m0a47 m0a49 m0a50 m0a51 m0a53 m0a54 m0a55 m0a56 m0a57 m0a58 m0a59 m0a60 m0a61 m0a62 m0a63 m0a67 m0a68 m0a69 m0a70 m0a71 m0a72 m0a73 m0a74 m0a75).trans hw_4.symm)) c)
  exact kend _ _ _ hS (lv_sub hl [3, 0] rfl)
set_option maxHeartbeats 4000000 in
set_option maxRecDepth 100000 in
theorem law_9 (l : Launch) (g : GG) {p : Program} {e : Env} {s : State} {m : MethodId} {below : List Frame} {meth : Method} {c : Code} {b : Nat} {scr : Nat → Int32} (X : En p s m #[Value.ref b] meth c cL_law 4 ret R_law meth.name) (hK : va_K g.1 classes (tyG g) s) (hA : ∀ q, s.heap.size ≤ q → laA s q) (hZ : stS g (laA s) s s.heap) (hX : va_X b 6 scr s s.heap) (hbl : b < s.heap.size) (hbA : ¬ laA s b) (x0 : Nat) (xr : Nat) (xt : Nat) (xg : Nat) (xb : Nat) (xp : Nat) (xu : Nat) (xm : Nat) (xd : Nat) (xw : Nat) (xh : Nat) (xa : Nat) (xs : Nat) (xf : Nat) (xgs : Nat) (xgh : Nat) (xba0 : Nat) (xba1 : Nat) (xba2 : Nat) (xba3 : Nat) (xba4 : Nat) (xba5 : Nat) (xba6 : Nat) (xba7 : Nat) (xba8 : Nat) (xba9 : Nat) (xba10 : Nat) (xba11 : Nat) (m0 : Nat) (m0a1 : Nat) (m0a5 : Nat) (m0a6 : Nat) (m0a7 : Nat) (m0a8 : Nat) (m0a9 : Nat) (m0a11 : Nat) (m0a12 : Nat) (m0a13 : Nat) (m0a14 : Nat) (m0a15 : Nat) (m0a16 : Nat) (m0a18 : Nat) (m0a19 : Nat) (m0a20 : Nat) (m0a21 : Nat) (m0a22 : Nat) (m0a24 : Nat) (m0a25 : Nat) (m0a26 : Nat) (m0a28 : Nat) (m0a29 : Nat) (m0a30 : Nat) (m0a31 : Nat) (m0a33 : Nat) (m0a34 : Nat) (m0a35 : Nat) (m0a36 : Nat) (m0a37 : Nat) (m0a38 : Nat) (m0a39 : Nat) (m0a40 : Nat) (m0a41 : Nat) (m0a42 : Nat) (m0a43 : Nat) (m0a44 : Nat) (m0a45 : Nat) (m0a46 : Nat) (m0a47 : Nat) (m0a49 : Nat) (m0a50 : Nat) (m0a51 : Nat) (m0a53 : Nat) (m0a54 : Nat) (m0a55 : Nat) (m0a56 : Nat) (m0a57 : Nat) (m0a58 : Nat) (m0a59 : Nat) (m0a60 : Nat) (m0a61 : Nat) (m0a62 : Nat) (m0a63 : Nat) (m0a67 : Nat) (m0a68 : Nat) (m0a69 : Nat) (m0a70 : Nat) (m0a71 : Nat) (m0a72 : Nat) (m0a73 : Nat) (m0a74 : Nat) (m0a75 : Nat) {H : Heap} {locs : List Loc} {ls : Array Slot} (hP : va_P g.1 classes [(x0, .inr (11, [.ref xr, .ref xt, .ref xg, .ref xb, .ref xp, .ref xu, .ref xm, .ref xd, .ref xw, .ref xh, .ref xa, .ref xs, .ref xf, .int 0, .int 0, .long 0, .long 0, .int 0])), (xg, .inr (3, [.ref xgs, .ref xgh])), (xgs, .inl (cI g, 64, .inl (fun _ => 0))), (xb, .inr (1, [.ref xba0, .ref xba1, .ref xba2, .ref xba3, .ref xba4, .ref xba5, .ref xba6, .ref xba7, .ref xba8, .ref xba9, .ref xba10, .ref xba11, .int 0, .int 0])), (xba0, .inl (cI g, 32, .inl (fun _ => 0))), (xba1, .inl (cI g, 32, .inl (fun _ => 0))), (xba2, .inl (cI g, 32, .inl (fun _ => 0))), (xba4, .inl (cI g, 32, .inl (fun _ => 0))), (xba5, .inl (cI g, 32, .inl (fun _ => 0))), (xba7, .inl (cI g, 64, .inl (fun _ => (-9)))), (xba8, .inl (cI g, 100, .inl (fun _ => 0))), (xba9, .inl (cI g, 100, .inl (fun _ => 0))), (xba10, .inl (cI g, 100, .inl (fun _ => 0))), (m0, .inr (12, [.int 0, .ref m0a1, .int 0, .long 0, .int 0, .ref m0a5, .ref m0a6, .ref m0a7, .ref m0a8, .ref m0a9, .int 0, .ref m0a11, .ref m0a12, .ref m0a13, .ref m0a14, .ref m0a15, .ref m0a16, .int 0, .ref m0a18, .ref m0a19, .ref m0a20, .ref m0a21, .ref m0a22, .int 0, .ref m0a24, .ref m0a25, .ref m0a26, .int 0, .ref m0a28, .ref m0a29, .ref m0a30, .ref m0a31, .int 0, .ref m0a33, .ref m0a34, .ref m0a35, .ref m0a36, .ref m0a37, .ref m0a38, .ref m0a39, .ref m0a40, .ref m0a41, .ref m0a42, .ref m0a43, .ref m0a44, .ref m0a45, .ref m0a46, .ref m0a47, .int 0, .ref m0a49, .ref m0a50, .ref m0a51, .int 0, .ref m0a53, .ref m0a54, .ref m0a55, .ref m0a56, .ref m0a57, .ref m0a58, .ref m0a59, .ref m0a60, .ref m0a61, .ref m0a62, .ref m0a63, .long 0, .int 0, .int (-9), .ref m0a67, .ref m0a68, .ref m0a69, .ref m0a70, .ref m0a71, .ref m0a72, .ref m0a73, .ref m0a74, .ref m0a75, .long 0])), (m0a15, .inl (cI g, 64, .inl (fun _ => 0))), (m0a18, .inl (cI g, 32, .inl (fun _ => 0))), (m0a19, .inl (cI g, 32, .inl (fun _ => 0))), (m0a20, .inl (cI g, 32, .inl (fun _ => 0))), (m0a22, .inl (cI g, 32, .inl (fun _ => 0))), (m0a24, .inl (cI g, 100, .inl (fun _ => 0))), (m0a25, .inl (cI g, 100, .inl (fun _ => 0))), (m0a26, .inl (cI g, 100, .inl (fun _ => 0)))] H) (hD : va_D (laA s) [(x0, .inr (11, [.ref xr, .ref xt, .ref xg, .ref xb, .ref xp, .ref xu, .ref xm, .ref xd, .ref xw, .ref xh, .ref xa, .ref xs, .ref xf, .int 0, .int 0, .long 0, .long 0, .int 0])), (xg, .inr (3, [.ref xgs, .ref xgh])), (xgs, .inl (cI g, 64, .inl (fun _ => 0))), (xb, .inr (1, [.ref xba0, .ref xba1, .ref xba2, .ref xba3, .ref xba4, .ref xba5, .ref xba6, .ref xba7, .ref xba8, .ref xba9, .ref xba10, .ref xba11, .int 0, .int 0])), (xba0, .inl (cI g, 32, .inl (fun _ => 0))), (xba1, .inl (cI g, 32, .inl (fun _ => 0))), (xba2, .inl (cI g, 32, .inl (fun _ => 0))), (xba4, .inl (cI g, 32, .inl (fun _ => 0))), (xba5, .inl (cI g, 32, .inl (fun _ => 0))), (xba7, .inl (cI g, 64, .inl (fun _ => (-9)))), (xba8, .inl (cI g, 100, .inl (fun _ => 0))), (xba9, .inl (cI g, 100, .inl (fun _ => 0))), (xba10, .inl (cI g, 100, .inl (fun _ => 0))), (m0, .inr (12, [.int 0, .ref m0a1, .int 0, .long 0, .int 0, .ref m0a5, .ref m0a6, .ref m0a7, .ref m0a8, .ref m0a9, .int 0, .ref m0a11, .ref m0a12, .ref m0a13, .ref m0a14, .ref m0a15, .ref m0a16, .int 0, .ref m0a18, .ref m0a19, .ref m0a20, .ref m0a21, .ref m0a22, .int 0, .ref m0a24, .ref m0a25, .ref m0a26, .int 0, .ref m0a28, .ref m0a29, .ref m0a30, .ref m0a31, .int 0, .ref m0a33, .ref m0a34, .ref m0a35, .ref m0a36, .ref m0a37, .ref m0a38, .ref m0a39, .ref m0a40, .ref m0a41, .ref m0a42, .ref m0a43, .ref m0a44, .ref m0a45, .ref m0a46, .ref m0a47, .int 0, .ref m0a49, .ref m0a50, .ref m0a51, .int 0, .ref m0a53, .ref m0a54, .ref m0a55, .ref m0a56, .ref m0a57, .ref m0a58, .ref m0a59, .ref m0a60, .ref m0a61, .ref m0a62, .ref m0a63, .long 0, .int 0, .int (-9), .ref m0a67, .ref m0a68, .ref m0a69, .ref m0a70, .ref m0a71, .ref m0a72, .ref m0a73, .ref m0a74, .ref m0a75, .long 0])), (m0a15, .inl (cI g, 64, .inl (fun _ => 0))), (m0a18, .inl (cI g, 32, .inl (fun _ => 0))), (m0a19, .inl (cI g, 32, .inl (fun _ => 0))), (m0a20, .inl (cI g, 32, .inl (fun _ => 0))), (m0a22, .inl (cI g, 32, .inl (fun _ => 0))), (m0a24, .inl (cI g, 100, .inl (fun _ => 0))), (m0a25, .inl (cI g, 100, .inl (fun _ => 0))), (m0a26, .inl (cI g, 100, .inl (fun _ => 0)))]) (hS : va_S (laA s) s.heap H locs) (hl : lv_has ls 4 [(3, .int 0), (2, .ref m0), (1, .ref x0), (0, .ref b)]) {Q : State → Prop} (kend : ∀ (H : Heap) (locs : List Loc) (ls : Array Slot), va_S (laA s) s.heap H locs → lv_has ls 4 [(0, .ref b), (3, .int 0)] → W p l e room_1 s m #[Value.ref b] below meth c H locs 141 11384 Q (F0 m 1955 ls [])) : W p l e room_1 s m #[Value.ref b] below meth c H locs 141 11384 Q (F0 m 591 ls []) := by
  have hx := X.1
  have hb := X.2.1
  have hml := X.2.2.1
  have hown := X.2.2.2.1
  have hts := X.2.2.2.2.1
  refine lv_aload_n hx hb dL_law_591 rfl (lv_at hl 2 rfl) ?_
  refine lv_aload_n hx hb dL_law_592 rfl (lv_at hl 3 rfl) ?_
  refine lv_iload_n hx hb dL_law_593 rfl (lv_at hl 0 rfl) ?_
  refine lv_iconst (v := 1) hx hb dL_law_594 (by decide) ?_
  refine lv_iadd hx hb dL_law_595 ?_
  refine lv_topk (v := 1) (by decide) ?_
  refine va_sld hx hb hX hbl hbA hS (by unfold vp_in; decide) dL_law_596 ?_
  refine lv_topk (v := scr 1) rfl ?_
  refine lv_aload_n hx hb dL_law_597 rfl (lv_at hl 3 rfl) ?_
  refine lv_iload_n hx hb dL_law_598 rfl (lv_at hl 0 rfl) ?_
  refine lv_iconst (v := 2) hx hb dL_law_599 (by decide) ?_
  refine lv_iadd hx hb dL_law_600 ?_
  refine lv_topk (v := 2) (by decide) ?_
  refine va_sld hx hb hX hbl hbA hS (by unfold vp_in; decide) dL_law_601 ?_
  refine lv_topk (v := scr 2) rfl ?_
  refine lv_aload_n hx hb dL_law_602 rfl (lv_at hl 3 rfl) ?_
  refine lv_iload_n hx hb dL_law_603 rfl (lv_at hl 0 rfl) ?_
  refine lv_iconst (v := 3) hx hb dL_law_604 (by decide) ?_
  refine lv_iadd hx hb dL_law_605 ?_
  refine lv_topk (v := 3) (by decide) ?_
  refine va_sld hx hb hX hbl hbA hS (by unfold vp_in; decide) dL_law_606 ?_
  refine lv_topk (v := scr 3) rfl ?_
  refine lv_aload_n hx hb dL_law_607 rfl (lv_at hl 3 rfl) ?_
  refine lv_iload_n hx hb dL_law_608 rfl (lv_at hl 0 rfl) ?_
  refine lv_iconst (v := 4) hx hb dL_law_609 (by decide) ?_
  refine lv_iadd hx hb dL_law_610 ?_
  refine lv_topk (v := 4) (by decide) ?_
  refine va_sld hx hb hX hbl hbA hS (by unfold vp_in; decide) dL_law_611 ?_
  refine lv_topk (v := scr 4) rfl ?_
  refine kVi (As := [.int (scr 1), .int (scr 2), .int (scr 3), .int (scr 4)]) (rest := []) (wr := [(m0, .inr (12, [.int 0, .ref m0a1, .int 0, .long 0, .int 0, .ref m0a5, .ref m0a6, .ref m0a7, .ref m0a8, .ref m0a9, .int 0, .ref m0a11, .ref m0a12, .ref m0a13, .ref m0a14, .ref m0a15, .ref m0a16, .int 0, .ref m0a18, .ref m0a19, .ref m0a20, .ref m0a21, .ref m0a22, .int 0, .ref m0a24, .ref m0a25, .ref m0a26, .int 0, .ref m0a28, .ref m0a29, .ref m0a30, .ref m0a31, .int 0, .ref m0a33, .ref m0a34, .ref m0a35, .ref m0a36, .ref m0a37, .ref m0a38, .ref m0a39, .ref m0a40, .ref m0a41, .ref m0a42, .ref m0a43, .ref m0a44, .ref m0a45, .ref m0a46, .ref m0a47, .int 0, .ref m0a49, .ref m0a50, .ref m0a51, .int 0, .ref m0a53, .ref m0a54, .ref m0a55, .ref m0a56, .ref m0a57, .ref m0a58, .ref m0a59, .ref m0a60, .ref m0a61, .ref m0a62, .ref m0a63, .long 0, .int 0, .int (-9), .ref m0a67, .ref m0a68, .ref m0a69, .ref m0a70, .ref m0a71, .ref m0a72, .ref m0a73, .ref m0a74, .ref m0a75, .long 0])), (m0a15, .inl (cI g, 64, .inl (fun _ => 0))), (m0a18, .inl (cI g, 32, .inl (fun _ => 0))), (m0a19, .inl (cI g, 32, .inl (fun _ => 0))), (m0a20, .inl (cI g, 32, .inl (fun _ => 0))), (m0a22, .inl (cI g, 32, .inl (fun _ => 0))), (m0a24, .inl (cI g, 100, .inl (fun _ => 0))), (m0a25, .inl (cI g, 100, .inl (fun _ => 0))), (m0a26, .inl (cI g, 100, .inl (fun _ => 0)))]) X (c_X11_building l g x0 (scr 1) (scr 2) (scr 3) (scr 4) xr xt xg xb xp xu xm xd xw xh xa xs xf xgs xgh xba0 xba1 xba2 xba3 xba4 xba5 xba6 xba7 xba8 xba9 xba10 xba11) ok_X11_building okv_X11_building q_632 rfl hK hP hD hS hA hZ hl.1 [0, 1, 2, 3, 4, 5, 6, 7, 8, 9, 10, 11, 12] [13, 14, 15, 16, 17, 18, 19, 20, 21] rfl rfl rfl rfl rfl 0 11 rfl rfl rfl (Nat.le_of_ble_eq_true rfl) ⟨Nat.le_of_ble_eq_true rfl, Nat.le_of_ble_eq_true rfl⟩ dL_law_612 ⟨Nat.le_of_ble_eq_true rfl, Nat.le_of_ble_eq_true rfl⟩ (fun r_1 w1 H locs hw_2 hP hD hS => ?_)
  have hP := pSub hP (ws' := [(m0, .inr (12, [.int 0, .ref m0a1, .int 0, .long 0, .int 0, .ref m0a5, .ref m0a6, .ref m0a7, .ref m0a8, .ref m0a9, .int 0, .ref m0a11, .ref m0a12, .ref m0a13, .ref m0a14, .ref m0a15, .ref m0a16, .int 0, .ref m0a18, .ref m0a19, .ref m0a20, .ref m0a21, .ref m0a22, .int 0, .ref m0a24, .ref m0a25, .ref m0a26, .int 0, .ref m0a28, .ref m0a29, .ref m0a30, .ref m0a31, .int 0, .ref m0a33, .ref m0a34, .ref m0a35, .ref m0a36, .ref m0a37, .ref m0a38, .ref m0a39, .ref m0a40, .ref m0a41, .ref m0a42, .ref m0a43, .ref m0a44, .ref m0a45, .ref m0a46, .ref m0a47, .int 0, .ref m0a49, .ref m0a50, .ref m0a51, .int 0, .ref m0a53, .ref m0a54, .ref m0a55, .ref m0a56, .ref m0a57, .ref m0a58, .ref m0a59, .ref m0a60, .ref m0a61, .ref m0a62, .ref m0a63, .long 0, .int 0, .int (-9), .ref m0a67, .ref m0a68, .ref m0a69, .ref m0a70, .ref m0a71, .ref m0a72, .ref m0a73, .ref m0a74, .ref m0a75, .long 0])), (m0a15, .inl (cI g, 64, .inl (fun _ => 0))), (m0a18, .inl (cI g, 32, .inl (fun _ => 0))), (m0a19, .inl (cI g, 32, .inl (fun _ => 0))), (m0a20, .inl (cI g, 32, .inl (fun _ => 0))), (m0a22, .inl (cI g, 32, .inl (fun _ => 0))), (m0a24, .inl (cI g, 100, .inl (fun _ => 0))), (m0a25, .inl (cI g, 100, .inl (fun _ => 0))), (m0a26, .inl (cI g, 100, .inl (fun _ => 0)))]) [0, 1, 2, 3, 4, 5, 6, 7, 8] rfl
  have hD := hD.sub (ws' := [(m0, .inr (12, [.int 0, .ref m0a1, .int 0, .long 0, .int 0, .ref m0a5, .ref m0a6, .ref m0a7, .ref m0a8, .ref m0a9, .int 0, .ref m0a11, .ref m0a12, .ref m0a13, .ref m0a14, .ref m0a15, .ref m0a16, .int 0, .ref m0a18, .ref m0a19, .ref m0a20, .ref m0a21, .ref m0a22, .int 0, .ref m0a24, .ref m0a25, .ref m0a26, .int 0, .ref m0a28, .ref m0a29, .ref m0a30, .ref m0a31, .int 0, .ref m0a33, .ref m0a34, .ref m0a35, .ref m0a36, .ref m0a37, .ref m0a38, .ref m0a39, .ref m0a40, .ref m0a41, .ref m0a42, .ref m0a43, .ref m0a44, .ref m0a45, .ref m0a46, .ref m0a47, .int 0, .ref m0a49, .ref m0a50, .ref m0a51, .int 0, .ref m0a53, .ref m0a54, .ref m0a55, .ref m0a56, .ref m0a57, .ref m0a58, .ref m0a59, .ref m0a60, .ref m0a61, .ref m0a62, .ref m0a63, .long 0, .int 0, .int (-9), .ref m0a67, .ref m0a68, .ref m0a69, .ref m0a70, .ref m0a71, .ref m0a72, .ref m0a73, .ref m0a74, .ref m0a75, .long 0])), (m0a15, .inl (cI g, 64, .inl (fun _ => 0))), (m0a18, .inl (cI g, 32, .inl (fun _ => 0))), (m0a19, .inl (cI g, 32, .inl (fun _ => 0))), (m0a20, .inl (cI g, 32, .inl (fun _ => 0))), (m0a22, .inl (cI g, 32, .inl (fun _ => 0))), (m0a24, .inl (cI g, 100, .inl (fun _ => 0))), (m0a25, .inl (cI g, 100, .inl (fun _ => 0))), (m0a26, .inl (cI g, 100, .inl (fun _ => 0)))]) [0, 1, 2, 3, 4, 5, 6, 7, 8] rfl rfl
  refine lv_aload_n hx hb dL_law_615 rfl (lv_at hl 1 rfl) ?_
  refine lv_aload_n hx hb dL_law_616 rfl (lv_at hl 3 rfl) ?_
  refine lv_iload_n hx hb dL_law_617 rfl (lv_at hl 0 rfl) ?_
  refine lv_iconst (v := 1) hx hb dL_law_618 (by decide) ?_
  refine lv_iadd hx hb dL_law_619 ?_
  refine lv_topk (v := 1) (by decide) ?_
  refine va_sld hx hb hX hbl hbA hS (by unfold vp_in; decide) dL_law_620 ?_
  refine lv_topk (v := scr 1) rfl ?_
  refine lv_aload_n hx hb dL_law_621 rfl (lv_at hl 3 rfl) ?_
  refine lv_iload_n hx hb dL_law_622 rfl (lv_at hl 0 rfl) ?_
  refine lv_iconst (v := 2) hx hb dL_law_623 (by decide) ?_
  refine lv_iadd hx hb dL_law_624 ?_
  refine lv_topk (v := 2) (by decide) ?_
  refine va_sld hx hb hX hbl hbA hS (by unfold vp_in; decide) dL_law_625 ?_
  refine lv_topk (v := scr 2) rfl ?_
  refine lv_aload_n hx hb dL_law_626 rfl (lv_at hl 3 rfl) ?_
  refine lv_iload_n hx hb dL_law_627 rfl (lv_at hl 0 rfl) ?_
  refine lv_iconst (v := 3) hx hb dL_law_628 (by decide) ?_
  refine lv_iadd hx hb dL_law_629 ?_
  refine lv_topk (v := 3) (by decide) ?_
  refine va_sld hx hb hX hbl hbA hS (by unfold vp_in; decide) dL_law_630 ?_
  refine lv_topk (v := scr 3) rfl ?_
  refine lv_aload_n hx hb dL_law_631 rfl (lv_at hl 3 rfl) ?_
  refine lv_iload_n hx hb dL_law_632 rfl (lv_at hl 0 rfl) ?_
  refine lv_iconst (v := 4) hx hb dL_law_633 (by decide) ?_
  refine lv_iadd hx hb dL_law_634 ?_
  refine lv_topk (v := 4) (by decide) ?_
  refine va_sld hx hb hX hbl hbA hS (by unfold vp_in; decide) dL_law_635 ?_
  refine lv_topk (v := scr 4) rfl ?_
  refine kVi (As := [.int (scr 1), .int (scr 2), .int (scr 3), .int (scr 4)]) (rest := [.int r_1]) (wr := []) X (c_X12_building l g m0 (scr 1) (scr 2) (scr 3) (scr 4) m0a1 m0a5 m0a6 m0a7 m0a8 m0a9 m0a11 m0a12 m0a13 m0a14 m0a15 m0a16 m0a18 m0a19 m0a20 m0a21 m0a22 m0a24 m0a25 m0a26 m0a28 m0a29 m0a30 m0a31 m0a33 m0a34 m0a35 m0a36 m0a37 m0a38 m0a39 m0a40 m0a41 m0a42 m0a43 m0a44 m0a45 m0a46 m0a47 m0a49 m0a50 m0a51 m0a53 m0a54 m0a55 m0a56 m0a57 m0a58 m0a59 m0a60 m0a61 m0a62 m0a63 m0a67 m0a68 m0a69 m0a70 m0a71 m0a72 m0a73 m0a74 m0a75) ok_X12_building okv_X12_building q_1795 rfl hK hP hD hS hA hZ hl.1 [0, 1, 2, 3, 4, 5, 6, 7, 8] [] rfl rfl rfl rfl rfl 0 12 rfl rfl rfl (Nat.le_of_ble_eq_true rfl) ⟨Nat.le_of_ble_eq_true rfl, Nat.le_of_ble_eq_true rfl⟩ dL_law_636 ⟨Nat.le_of_ble_eq_true rfl, Nat.le_of_ble_eq_true rfl⟩ (fun r_3 w1 H locs hw_4 hP hD hS => ?_)
  have hP := pSub hP (ws' := []) [] rfl
  have hD := hD.sub (ws' := []) [] rfl rfl
  refine lv_icmp_eq (tgt := 1955) hx hb dL_law_639 (by decide) (fun _ => ?_) (fun c => absurd (hw_2.trans ((eq_building g x0 (scr 1) (scr 2) (scr 3) (scr 4) xr xt xg xb xp xu xm xd xw xh xa xs xf xgs xgh xba0 xba1 xba2 xba3 xba4 xba5 xba6 xba7 xba8 xba9 xba10 xba11 m0 m0a1 m0a5 m0a6 m0a7 m0a8 m0a9 m0a11 m0a12 m0a13 m0a14 m0a15 m0a16 m0a18 m0a19 m0a20 m0a21 m0a22 m0a24 m0a25 m0a26 m0a28 m0a29 m0a30 m0a31 m0a33 m0a34 m0a35 m0a36 m0a37 m0a38 m0a39 m0a40 m0a41 m0a42 m0a43 m0a44 m0a45 m0a46 m0a47 m0a49 m0a50 m0a51 m0a53 m0a54 m0a55 m0a56 m0a57 m0a58 m0a59 m0a60 m0a61 m0a62 m0a63 m0a67 m0a68 m0a69 m0a70 m0a71 m0a72 m0a73 m0a74 m0a75).trans hw_4.symm)) c)
  exact kend _ _ _ hS (lv_sub hl [3, 0] rfl)
set_option maxHeartbeats 4000000 in
set_option maxRecDepth 100000 in
theorem law_10 (l : Launch) (g : GG) {p : Program} {e : Env} {s : State} {m : MethodId} {below : List Frame} {meth : Method} {c : Code} {b : Nat} {scr : Nat → Int32} (X : En p s m #[Value.ref b] meth c cL_law 4 ret R_law meth.name) (hK : va_K g.1 classes (tyG g) s) (hA : ∀ q, s.heap.size ≤ q → laA s q) (hZ : stS g (laA s) s s.heap) (hX : va_X b 6 scr s s.heap) (hbl : b < s.heap.size) (hbA : ¬ laA s b) (x0 : Nat) (xr : Nat) (xt : Nat) (xg : Nat) (xb : Nat) (xp : Nat) (xu : Nat) (xm : Nat) (xd : Nat) (xw : Nat) (xh : Nat) (xa : Nat) (xs : Nat) (xf : Nat) (xba0 : Nat) (xba1 : Nat) (xba2 : Nat) (xba3 : Nat) (xba4 : Nat) (xba5 : Nat) (xba6 : Nat) (xba7 : Nat) (xba8 : Nat) (xba9 : Nat) (xba10 : Nat) (xba11 : Nat) (m0 : Nat) (m0a1 : Nat) (m0a5 : Nat) (m0a6 : Nat) (m0a7 : Nat) (m0a8 : Nat) (m0a9 : Nat) (m0a11 : Nat) (m0a12 : Nat) (m0a13 : Nat) (m0a14 : Nat) (m0a15 : Nat) (m0a16 : Nat) (m0a18 : Nat) (m0a19 : Nat) (m0a20 : Nat) (m0a21 : Nat) (m0a22 : Nat) (m0a24 : Nat) (m0a25 : Nat) (m0a26 : Nat) (m0a28 : Nat) (m0a29 : Nat) (m0a30 : Nat) (m0a31 : Nat) (m0a33 : Nat) (m0a34 : Nat) (m0a35 : Nat) (m0a36 : Nat) (m0a37 : Nat) (m0a38 : Nat) (m0a39 : Nat) (m0a40 : Nat) (m0a41 : Nat) (m0a42 : Nat) (m0a43 : Nat) (m0a44 : Nat) (m0a45 : Nat) (m0a46 : Nat) (m0a47 : Nat) (m0a49 : Nat) (m0a50 : Nat) (m0a51 : Nat) (m0a53 : Nat) (m0a54 : Nat) (m0a55 : Nat) (m0a56 : Nat) (m0a57 : Nat) (m0a58 : Nat) (m0a59 : Nat) (m0a60 : Nat) (m0a61 : Nat) (m0a62 : Nat) (m0a63 : Nat) (m0a67 : Nat) (m0a68 : Nat) (m0a69 : Nat) (m0a70 : Nat) (m0a71 : Nat) (m0a72 : Nat) (m0a73 : Nat) (m0a74 : Nat) (m0a75 : Nat) {H : Heap} {locs : List Loc} {ls : Array Slot} (hP : va_P g.1 classes [(x0, .inr (11, [.ref xr, .ref xt, .ref xg, .ref xb, .ref xp, .ref xu, .ref xm, .ref xd, .ref xw, .ref xh, .ref xa, .ref xs, .ref xf, .int 0, .int 0, .long 0, .long 0, .int 0])), (xb, .inr (1, [.ref xba0, .ref xba1, .ref xba2, .ref xba3, .ref xba4, .ref xba5, .ref xba6, .ref xba7, .ref xba8, .ref xba9, .ref xba10, .ref xba11, .int 0, .int 0])), (m0, .inr (12, [.int 0, .ref m0a1, .int 0, .long 0, .int 0, .ref m0a5, .ref m0a6, .ref m0a7, .ref m0a8, .ref m0a9, .int 0, .ref m0a11, .ref m0a12, .ref m0a13, .ref m0a14, .ref m0a15, .ref m0a16, .int 0, .ref m0a18, .ref m0a19, .ref m0a20, .ref m0a21, .ref m0a22, .int 0, .ref m0a24, .ref m0a25, .ref m0a26, .int 0, .ref m0a28, .ref m0a29, .ref m0a30, .ref m0a31, .int 0, .ref m0a33, .ref m0a34, .ref m0a35, .ref m0a36, .ref m0a37, .ref m0a38, .ref m0a39, .ref m0a40, .ref m0a41, .ref m0a42, .ref m0a43, .ref m0a44, .ref m0a45, .ref m0a46, .ref m0a47, .int 0, .ref m0a49, .ref m0a50, .ref m0a51, .int 0, .ref m0a53, .ref m0a54, .ref m0a55, .ref m0a56, .ref m0a57, .ref m0a58, .ref m0a59, .ref m0a60, .ref m0a61, .ref m0a62, .ref m0a63, .long 0, .int 0, .int (-9), .ref m0a67, .ref m0a68, .ref m0a69, .ref m0a70, .ref m0a71, .ref m0a72, .ref m0a73, .ref m0a74, .ref m0a75, .long 0]))] H) (hD : va_D (laA s) [(x0, .inr (11, [.ref xr, .ref xt, .ref xg, .ref xb, .ref xp, .ref xu, .ref xm, .ref xd, .ref xw, .ref xh, .ref xa, .ref xs, .ref xf, .int 0, .int 0, .long 0, .long 0, .int 0])), (xb, .inr (1, [.ref xba0, .ref xba1, .ref xba2, .ref xba3, .ref xba4, .ref xba5, .ref xba6, .ref xba7, .ref xba8, .ref xba9, .ref xba10, .ref xba11, .int 0, .int 0])), (m0, .inr (12, [.int 0, .ref m0a1, .int 0, .long 0, .int 0, .ref m0a5, .ref m0a6, .ref m0a7, .ref m0a8, .ref m0a9, .int 0, .ref m0a11, .ref m0a12, .ref m0a13, .ref m0a14, .ref m0a15, .ref m0a16, .int 0, .ref m0a18, .ref m0a19, .ref m0a20, .ref m0a21, .ref m0a22, .int 0, .ref m0a24, .ref m0a25, .ref m0a26, .int 0, .ref m0a28, .ref m0a29, .ref m0a30, .ref m0a31, .int 0, .ref m0a33, .ref m0a34, .ref m0a35, .ref m0a36, .ref m0a37, .ref m0a38, .ref m0a39, .ref m0a40, .ref m0a41, .ref m0a42, .ref m0a43, .ref m0a44, .ref m0a45, .ref m0a46, .ref m0a47, .int 0, .ref m0a49, .ref m0a50, .ref m0a51, .int 0, .ref m0a53, .ref m0a54, .ref m0a55, .ref m0a56, .ref m0a57, .ref m0a58, .ref m0a59, .ref m0a60, .ref m0a61, .ref m0a62, .ref m0a63, .long 0, .int 0, .int (-9), .ref m0a67, .ref m0a68, .ref m0a69, .ref m0a70, .ref m0a71, .ref m0a72, .ref m0a73, .ref m0a74, .ref m0a75, .long 0]))]) (hS : va_S (laA s) s.heap H locs) (hl : lv_has ls 4 [(3, .int 0), (2, .ref m0), (1, .ref x0), (0, .ref b)]) {Q : State → Prop} (kend : ∀ (H : Heap) (locs : List Loc) (ls : Array Slot), va_S (laA s) s.heap H locs → lv_has ls 4 [(0, .ref b), (3, .int 0)] → W p l e room_1 s m #[Value.ref b] below meth c H locs 141 11384 Q (F0 m 1955 ls [])) : W p l e room_1 s m #[Value.ref b] below meth c H locs 141 11384 Q (F0 m 644 ls []) := by
  have hx := X.1
  have hb := X.2.1
  have hml := X.2.2.1
  have hown := X.2.2.2.1
  have hts := X.2.2.2.2.1
  refine lv_aload_n hx hb dL_law_644 rfl (lv_at hl 2 rfl) ?_
  refine lv_aload_n hx hb dL_law_645 rfl (lv_at hl 3 rfl) ?_
  refine lv_iload_n hx hb dL_law_646 rfl (lv_at hl 0 rfl) ?_
  refine lv_iconst (v := 1) hx hb dL_law_647 (by decide) ?_
  refine lv_iadd hx hb dL_law_648 ?_
  refine lv_topk (v := 1) (by decide) ?_
  refine va_sld hx hb hX hbl hbA hS (by unfold vp_in; decide) dL_law_649 ?_
  refine lv_topk (v := scr 1) rfl ?_
  refine lv_aload_n hx hb dL_law_650 rfl (lv_at hl 3 rfl) ?_
  refine lv_iload_n hx hb dL_law_651 rfl (lv_at hl 0 rfl) ?_
  refine lv_iconst (v := 2) hx hb dL_law_652 (by decide) ?_
  refine lv_iadd hx hb dL_law_653 ?_
  refine lv_topk (v := 2) (by decide) ?_
  refine va_sld hx hb hX hbl hbA hS (by unfold vp_in; decide) dL_law_654 ?_
  refine lv_topk (v := scr 2) rfl ?_
  refine kVi (As := [.int (scr 1), .int (scr 2)]) (rest := []) (wr := [(m0, .inr (12, [.int 0, .ref m0a1, .int 0, .long 0, .int 0, .ref m0a5, .ref m0a6, .ref m0a7, .ref m0a8, .ref m0a9, .int 0, .ref m0a11, .ref m0a12, .ref m0a13, .ref m0a14, .ref m0a15, .ref m0a16, .int 0, .ref m0a18, .ref m0a19, .ref m0a20, .ref m0a21, .ref m0a22, .int 0, .ref m0a24, .ref m0a25, .ref m0a26, .int 0, .ref m0a28, .ref m0a29, .ref m0a30, .ref m0a31, .int 0, .ref m0a33, .ref m0a34, .ref m0a35, .ref m0a36, .ref m0a37, .ref m0a38, .ref m0a39, .ref m0a40, .ref m0a41, .ref m0a42, .ref m0a43, .ref m0a44, .ref m0a45, .ref m0a46, .ref m0a47, .int 0, .ref m0a49, .ref m0a50, .ref m0a51, .int 0, .ref m0a53, .ref m0a54, .ref m0a55, .ref m0a56, .ref m0a57, .ref m0a58, .ref m0a59, .ref m0a60, .ref m0a61, .ref m0a62, .ref m0a63, .long 0, .int 0, .int (-9), .ref m0a67, .ref m0a68, .ref m0a69, .ref m0a70, .ref m0a71, .ref m0a72, .ref m0a73, .ref m0a74, .ref m0a75, .long 0]))]) X (c_X11_worth l g x0 (scr 1) (scr 2) xr xt xg xb xp xu xm xd xw xh xa xs xf xba0 xba1 xba2 xba3 xba4 xba5 xba6 xba7 xba8 xba9 xba10 xba11) ok_X11_worth okv_X11_worth q_663 rfl hK hP hD hS hA hZ hl.1 [0, 1] [2] rfl rfl rfl rfl rfl 0 11 rfl rfl rfl (Nat.le_of_ble_eq_true rfl) ⟨Nat.le_of_ble_eq_true rfl, Nat.le_of_ble_eq_true rfl⟩ dL_law_655 ⟨Nat.le_of_ble_eq_true rfl, Nat.le_of_ble_eq_true rfl⟩ (fun r_1 w1 H locs hw_2 hP hD hS => ?_)
  have hP := pSub hP (ws' := [(m0, .inr (12, [.int 0, .ref m0a1, .int 0, .long 0, .int 0, .ref m0a5, .ref m0a6, .ref m0a7, .ref m0a8, .ref m0a9, .int 0, .ref m0a11, .ref m0a12, .ref m0a13, .ref m0a14, .ref m0a15, .ref m0a16, .int 0, .ref m0a18, .ref m0a19, .ref m0a20, .ref m0a21, .ref m0a22, .int 0, .ref m0a24, .ref m0a25, .ref m0a26, .int 0, .ref m0a28, .ref m0a29, .ref m0a30, .ref m0a31, .int 0, .ref m0a33, .ref m0a34, .ref m0a35, .ref m0a36, .ref m0a37, .ref m0a38, .ref m0a39, .ref m0a40, .ref m0a41, .ref m0a42, .ref m0a43, .ref m0a44, .ref m0a45, .ref m0a46, .ref m0a47, .int 0, .ref m0a49, .ref m0a50, .ref m0a51, .int 0, .ref m0a53, .ref m0a54, .ref m0a55, .ref m0a56, .ref m0a57, .ref m0a58, .ref m0a59, .ref m0a60, .ref m0a61, .ref m0a62, .ref m0a63, .long 0, .int 0, .int (-9), .ref m0a67, .ref m0a68, .ref m0a69, .ref m0a70, .ref m0a71, .ref m0a72, .ref m0a73, .ref m0a74, .ref m0a75, .long 0]))]) [0] rfl
  have hD := hD.sub (ws' := [(m0, .inr (12, [.int 0, .ref m0a1, .int 0, .long 0, .int 0, .ref m0a5, .ref m0a6, .ref m0a7, .ref m0a8, .ref m0a9, .int 0, .ref m0a11, .ref m0a12, .ref m0a13, .ref m0a14, .ref m0a15, .ref m0a16, .int 0, .ref m0a18, .ref m0a19, .ref m0a20, .ref m0a21, .ref m0a22, .int 0, .ref m0a24, .ref m0a25, .ref m0a26, .int 0, .ref m0a28, .ref m0a29, .ref m0a30, .ref m0a31, .int 0, .ref m0a33, .ref m0a34, .ref m0a35, .ref m0a36, .ref m0a37, .ref m0a38, .ref m0a39, .ref m0a40, .ref m0a41, .ref m0a42, .ref m0a43, .ref m0a44, .ref m0a45, .ref m0a46, .ref m0a47, .int 0, .ref m0a49, .ref m0a50, .ref m0a51, .int 0, .ref m0a53, .ref m0a54, .ref m0a55, .ref m0a56, .ref m0a57, .ref m0a58, .ref m0a59, .ref m0a60, .ref m0a61, .ref m0a62, .ref m0a63, .long 0, .int 0, .int (-9), .ref m0a67, .ref m0a68, .ref m0a69, .ref m0a70, .ref m0a71, .ref m0a72, .ref m0a73, .ref m0a74, .ref m0a75, .long 0]))]) [0] rfl rfl
  refine lv_aload_n hx hb dL_law_658 rfl (lv_at hl 1 rfl) ?_
  refine lv_aload_n hx hb dL_law_659 rfl (lv_at hl 3 rfl) ?_
  refine lv_iload_n hx hb dL_law_660 rfl (lv_at hl 0 rfl) ?_
  refine lv_iconst (v := 1) hx hb dL_law_661 (by decide) ?_
  refine lv_iadd hx hb dL_law_662 ?_
  refine lv_topk (v := 1) (by decide) ?_
  refine va_sld hx hb hX hbl hbA hS (by unfold vp_in; decide) dL_law_663 ?_
  refine lv_topk (v := scr 1) rfl ?_
  refine lv_aload_n hx hb dL_law_664 rfl (lv_at hl 3 rfl) ?_
  refine lv_iload_n hx hb dL_law_665 rfl (lv_at hl 0 rfl) ?_
  refine lv_iconst (v := 2) hx hb dL_law_666 (by decide) ?_
  refine lv_iadd hx hb dL_law_667 ?_
  refine lv_topk (v := 2) (by decide) ?_
  refine va_sld hx hb hX hbl hbA hS (by unfold vp_in; decide) dL_law_668 ?_
  refine lv_topk (v := scr 2) rfl ?_
  refine kVi (As := [.int (scr 1), .int (scr 2)]) (rest := [.int r_1]) (wr := []) X (c_X12_worth l g m0 (scr 1) (scr 2) m0a1 m0a5 m0a6 m0a7 m0a8 m0a9 m0a11 m0a12 m0a13 m0a14 m0a15 m0a16 m0a18 m0a19 m0a20 m0a21 m0a22 m0a24 m0a25 m0a26 m0a28 m0a29 m0a30 m0a31 m0a33 m0a34 m0a35 m0a36 m0a37 m0a38 m0a39 m0a40 m0a41 m0a42 m0a43 m0a44 m0a45 m0a46 m0a47 m0a49 m0a50 m0a51 m0a53 m0a54 m0a55 m0a56 m0a57 m0a58 m0a59 m0a60 m0a61 m0a62 m0a63 m0a67 m0a68 m0a69 m0a70 m0a71 m0a72 m0a73 m0a74 m0a75) ok_X12_worth okv_X12_worth q_1807 rfl hK hP hD hS hA hZ hl.1 [0] [] rfl rfl rfl rfl rfl 0 12 rfl rfl rfl (Nat.le_of_ble_eq_true rfl) ⟨Nat.le_of_ble_eq_true rfl, Nat.le_of_ble_eq_true rfl⟩ dL_law_669 ⟨Nat.le_of_ble_eq_true rfl, Nat.le_of_ble_eq_true rfl⟩ (fun r_3 w1 H locs hw_4 hP hD hS => ?_)
  have hP := pSub hP (ws' := []) [] rfl
  have hD := hD.sub (ws' := []) [] rfl rfl
  refine lv_icmp_eq (tgt := 1955) hx hb dL_law_672 (by decide) (fun _ => ?_) (fun c => absurd (hw_2.trans ((eq_worth g x0 (scr 1) (scr 2) xr xt xg xb xp xu xm xd xw xh xa xs xf xba0 xba1 xba2 xba3 xba4 xba5 xba6 xba7 xba8 xba9 xba10 xba11 m0 m0a1 m0a5 m0a6 m0a7 m0a8 m0a9 m0a11 m0a12 m0a13 m0a14 m0a15 m0a16 m0a18 m0a19 m0a20 m0a21 m0a22 m0a24 m0a25 m0a26 m0a28 m0a29 m0a30 m0a31 m0a33 m0a34 m0a35 m0a36 m0a37 m0a38 m0a39 m0a40 m0a41 m0a42 m0a43 m0a44 m0a45 m0a46 m0a47 m0a49 m0a50 m0a51 m0a53 m0a54 m0a55 m0a56 m0a57 m0a58 m0a59 m0a60 m0a61 m0a62 m0a63 m0a67 m0a68 m0a69 m0a70 m0a71 m0a72 m0a73 m0a74 m0a75).trans hw_4.symm)) c)
  exact kend _ _ _ hS (lv_sub hl [3, 0] rfl)
set_option maxHeartbeats 4000000 in
set_option maxRecDepth 100000 in
theorem law_11 (l : Launch) (g : GG) {p : Program} {e : Env} {s : State} {m : MethodId} {below : List Frame} {meth : Method} {c : Code} {b : Nat} {scr : Nat → Int32} (X : En p s m #[Value.ref b] meth c cL_law 4 ret R_law meth.name) (hK : va_K g.1 classes (tyG g) s) (hA : ∀ q, s.heap.size ≤ q → laA s q) (hZ : stS g (laA s) s s.heap) (hX : va_X b 6 scr s s.heap) (hbl : b < s.heap.size) (hbA : ¬ laA s b) (x0 : Nat) (xr : Nat) (xt : Nat) (xg : Nat) (xb : Nat) (xp : Nat) (xu : Nat) (xm : Nat) (xd : Nat) (xw : Nat) (xh : Nat) (xa : Nat) (xs : Nat) (xf : Nat) (xba0 : Nat) (xba1 : Nat) (xba2 : Nat) (xba3 : Nat) (xba4 : Nat) (xba5 : Nat) (xba6 : Nat) (xba7 : Nat) (xba8 : Nat) (xba9 : Nat) (xba10 : Nat) (xba11 : Nat) (m0 : Nat) (m0a1 : Nat) (m0a5 : Nat) (m0a6 : Nat) (m0a7 : Nat) (m0a8 : Nat) (m0a9 : Nat) (m0a11 : Nat) (m0a12 : Nat) (m0a13 : Nat) (m0a14 : Nat) (m0a15 : Nat) (m0a16 : Nat) (m0a18 : Nat) (m0a19 : Nat) (m0a20 : Nat) (m0a21 : Nat) (m0a22 : Nat) (m0a24 : Nat) (m0a25 : Nat) (m0a26 : Nat) (m0a28 : Nat) (m0a29 : Nat) (m0a30 : Nat) (m0a31 : Nat) (m0a33 : Nat) (m0a34 : Nat) (m0a35 : Nat) (m0a36 : Nat) (m0a37 : Nat) (m0a38 : Nat) (m0a39 : Nat) (m0a40 : Nat) (m0a41 : Nat) (m0a42 : Nat) (m0a43 : Nat) (m0a44 : Nat) (m0a45 : Nat) (m0a46 : Nat) (m0a47 : Nat) (m0a49 : Nat) (m0a50 : Nat) (m0a51 : Nat) (m0a53 : Nat) (m0a54 : Nat) (m0a55 : Nat) (m0a56 : Nat) (m0a57 : Nat) (m0a58 : Nat) (m0a59 : Nat) (m0a60 : Nat) (m0a61 : Nat) (m0a62 : Nat) (m0a63 : Nat) (m0a67 : Nat) (m0a68 : Nat) (m0a69 : Nat) (m0a70 : Nat) (m0a71 : Nat) (m0a72 : Nat) (m0a73 : Nat) (m0a74 : Nat) (m0a75 : Nat) {H : Heap} {locs : List Loc} {ls : Array Slot} (hP : va_P g.1 classes [(x0, .inr (11, [.ref xr, .ref xt, .ref xg, .ref xb, .ref xp, .ref xu, .ref xm, .ref xd, .ref xw, .ref xh, .ref xa, .ref xs, .ref xf, .int 0, .int 0, .long 0, .long 0, .int 0])), (xb, .inr (1, [.ref xba0, .ref xba1, .ref xba2, .ref xba3, .ref xba4, .ref xba5, .ref xba6, .ref xba7, .ref xba8, .ref xba9, .ref xba10, .ref xba11, .int 0, .int 0])), (m0, .inr (12, [.int 0, .ref m0a1, .int 0, .long 0, .int 0, .ref m0a5, .ref m0a6, .ref m0a7, .ref m0a8, .ref m0a9, .int 0, .ref m0a11, .ref m0a12, .ref m0a13, .ref m0a14, .ref m0a15, .ref m0a16, .int 0, .ref m0a18, .ref m0a19, .ref m0a20, .ref m0a21, .ref m0a22, .int 0, .ref m0a24, .ref m0a25, .ref m0a26, .int 0, .ref m0a28, .ref m0a29, .ref m0a30, .ref m0a31, .int 0, .ref m0a33, .ref m0a34, .ref m0a35, .ref m0a36, .ref m0a37, .ref m0a38, .ref m0a39, .ref m0a40, .ref m0a41, .ref m0a42, .ref m0a43, .ref m0a44, .ref m0a45, .ref m0a46, .ref m0a47, .int 0, .ref m0a49, .ref m0a50, .ref m0a51, .int 0, .ref m0a53, .ref m0a54, .ref m0a55, .ref m0a56, .ref m0a57, .ref m0a58, .ref m0a59, .ref m0a60, .ref m0a61, .ref m0a62, .ref m0a63, .long 0, .int 0, .int (-9), .ref m0a67, .ref m0a68, .ref m0a69, .ref m0a70, .ref m0a71, .ref m0a72, .ref m0a73, .ref m0a74, .ref m0a75, .long 0]))] H) (hD : va_D (laA s) [(x0, .inr (11, [.ref xr, .ref xt, .ref xg, .ref xb, .ref xp, .ref xu, .ref xm, .ref xd, .ref xw, .ref xh, .ref xa, .ref xs, .ref xf, .int 0, .int 0, .long 0, .long 0, .int 0])), (xb, .inr (1, [.ref xba0, .ref xba1, .ref xba2, .ref xba3, .ref xba4, .ref xba5, .ref xba6, .ref xba7, .ref xba8, .ref xba9, .ref xba10, .ref xba11, .int 0, .int 0])), (m0, .inr (12, [.int 0, .ref m0a1, .int 0, .long 0, .int 0, .ref m0a5, .ref m0a6, .ref m0a7, .ref m0a8, .ref m0a9, .int 0, .ref m0a11, .ref m0a12, .ref m0a13, .ref m0a14, .ref m0a15, .ref m0a16, .int 0, .ref m0a18, .ref m0a19, .ref m0a20, .ref m0a21, .ref m0a22, .int 0, .ref m0a24, .ref m0a25, .ref m0a26, .int 0, .ref m0a28, .ref m0a29, .ref m0a30, .ref m0a31, .int 0, .ref m0a33, .ref m0a34, .ref m0a35, .ref m0a36, .ref m0a37, .ref m0a38, .ref m0a39, .ref m0a40, .ref m0a41, .ref m0a42, .ref m0a43, .ref m0a44, .ref m0a45, .ref m0a46, .ref m0a47, .int 0, .ref m0a49, .ref m0a50, .ref m0a51, .int 0, .ref m0a53, .ref m0a54, .ref m0a55, .ref m0a56, .ref m0a57, .ref m0a58, .ref m0a59, .ref m0a60, .ref m0a61, .ref m0a62, .ref m0a63, .long 0, .int 0, .int (-9), .ref m0a67, .ref m0a68, .ref m0a69, .ref m0a70, .ref m0a71, .ref m0a72, .ref m0a73, .ref m0a74, .ref m0a75, .long 0]))]) (hS : va_S (laA s) s.heap H locs) (hl : lv_has ls 4 [(3, .int 0), (2, .ref m0), (1, .ref x0), (0, .ref b)]) {Q : State → Prop} (kend : ∀ (H : Heap) (locs : List Loc) (ls : Array Slot), va_S (laA s) s.heap H locs → lv_has ls 4 [(0, .ref b), (3, .int 0)] → W p l e room_1 s m #[Value.ref b] below meth c H locs 141 11384 Q (F0 m 1955 ls [])) : W p l e room_1 s m #[Value.ref b] below meth c H locs 141 11384 Q (F0 m 677 ls []) := by
  have hx := X.1
  have hb := X.2.1
  have hml := X.2.2.1
  have hown := X.2.2.2.1
  have hts := X.2.2.2.2.1
  refine lv_aload_n hx hb dL_law_677 rfl (lv_at hl 2 rfl) ?_
  refine lv_aload_n hx hb dL_law_678 rfl (lv_at hl 3 rfl) ?_
  refine lv_iload_n hx hb dL_law_679 rfl (lv_at hl 0 rfl) ?_
  refine lv_iconst (v := 1) hx hb dL_law_680 (by decide) ?_
  refine lv_iadd hx hb dL_law_681 ?_
  refine lv_topk (v := 1) (by decide) ?_
  refine va_sld hx hb hX hbl hbA hS (by unfold vp_in; decide) dL_law_682 ?_
  refine lv_topk (v := scr 1) rfl ?_
  refine lv_aload_n hx hb dL_law_683 rfl (lv_at hl 3 rfl) ?_
  refine lv_iload_n hx hb dL_law_684 rfl (lv_at hl 0 rfl) ?_
  refine lv_iconst (v := 2) hx hb dL_law_685 (by decide) ?_
  refine lv_iadd hx hb dL_law_686 ?_
  refine lv_topk (v := 2) (by decide) ?_
  refine va_sld hx hb hX hbl hbA hS (by unfold vp_in; decide) dL_law_687 ?_
  refine lv_topk (v := scr 2) rfl ?_
  refine kVi (As := [.int (scr 1), .int (scr 2)]) (rest := []) (wr := [(m0, .inr (12, [.int 0, .ref m0a1, .int 0, .long 0, .int 0, .ref m0a5, .ref m0a6, .ref m0a7, .ref m0a8, .ref m0a9, .int 0, .ref m0a11, .ref m0a12, .ref m0a13, .ref m0a14, .ref m0a15, .ref m0a16, .int 0, .ref m0a18, .ref m0a19, .ref m0a20, .ref m0a21, .ref m0a22, .int 0, .ref m0a24, .ref m0a25, .ref m0a26, .int 0, .ref m0a28, .ref m0a29, .ref m0a30, .ref m0a31, .int 0, .ref m0a33, .ref m0a34, .ref m0a35, .ref m0a36, .ref m0a37, .ref m0a38, .ref m0a39, .ref m0a40, .ref m0a41, .ref m0a42, .ref m0a43, .ref m0a44, .ref m0a45, .ref m0a46, .ref m0a47, .int 0, .ref m0a49, .ref m0a50, .ref m0a51, .int 0, .ref m0a53, .ref m0a54, .ref m0a55, .ref m0a56, .ref m0a57, .ref m0a58, .ref m0a59, .ref m0a60, .ref m0a61, .ref m0a62, .ref m0a63, .long 0, .int 0, .int (-9), .ref m0a67, .ref m0a68, .ref m0a69, .ref m0a70, .ref m0a71, .ref m0a72, .ref m0a73, .ref m0a74, .ref m0a75, .long 0]))]) X (c_X11_value l g x0 (scr 1) (scr 2) xr xt xg xb xp xu xm xd xw xh xa xs xf xba0 xba1 xba2 xba3 xba4 xba5 xba6 xba7 xba8 xba9 xba10 xba11) ok_X11_value okv_X11_value q_680 rfl hK hP hD hS hA hZ hl.1 [0, 1] [2] rfl rfl rfl rfl rfl 0 11 rfl rfl rfl (Nat.le_of_ble_eq_true rfl) ⟨Nat.le_of_ble_eq_true rfl, Nat.le_of_ble_eq_true rfl⟩ dL_law_688 ⟨Nat.le_of_ble_eq_true rfl, Nat.le_of_ble_eq_true rfl⟩ (fun r_1 w1 H locs hw_2 hP hD hS => ?_)
  have hP := pSub hP (ws' := [(m0, .inr (12, [.int 0, .ref m0a1, .int 0, .long 0, .int 0, .ref m0a5, .ref m0a6, .ref m0a7, .ref m0a8, .ref m0a9, .int 0, .ref m0a11, .ref m0a12, .ref m0a13, .ref m0a14, .ref m0a15, .ref m0a16, .int 0, .ref m0a18, .ref m0a19, .ref m0a20, .ref m0a21, .ref m0a22, .int 0, .ref m0a24, .ref m0a25, .ref m0a26, .int 0, .ref m0a28, .ref m0a29, .ref m0a30, .ref m0a31, .int 0, .ref m0a33, .ref m0a34, .ref m0a35, .ref m0a36, .ref m0a37, .ref m0a38, .ref m0a39, .ref m0a40, .ref m0a41, .ref m0a42, .ref m0a43, .ref m0a44, .ref m0a45, .ref m0a46, .ref m0a47, .int 0, .ref m0a49, .ref m0a50, .ref m0a51, .int 0, .ref m0a53, .ref m0a54, .ref m0a55, .ref m0a56, .ref m0a57, .ref m0a58, .ref m0a59, .ref m0a60, .ref m0a61, .ref m0a62, .ref m0a63, .long 0, .int 0, .int (-9), .ref m0a67, .ref m0a68, .ref m0a69, .ref m0a70, .ref m0a71, .ref m0a72, .ref m0a73, .ref m0a74, .ref m0a75, .long 0]))]) [0] rfl
  have hD := hD.sub (ws' := [(m0, .inr (12, [.int 0, .ref m0a1, .int 0, .long 0, .int 0, .ref m0a5, .ref m0a6, .ref m0a7, .ref m0a8, .ref m0a9, .int 0, .ref m0a11, .ref m0a12, .ref m0a13, .ref m0a14, .ref m0a15, .ref m0a16, .int 0, .ref m0a18, .ref m0a19, .ref m0a20, .ref m0a21, .ref m0a22, .int 0, .ref m0a24, .ref m0a25, .ref m0a26, .int 0, .ref m0a28, .ref m0a29, .ref m0a30, .ref m0a31, .int 0, .ref m0a33, .ref m0a34, .ref m0a35, .ref m0a36, .ref m0a37, .ref m0a38, .ref m0a39, .ref m0a40, .ref m0a41, .ref m0a42, .ref m0a43, .ref m0a44, .ref m0a45, .ref m0a46, .ref m0a47, .int 0, .ref m0a49, .ref m0a50, .ref m0a51, .int 0, .ref m0a53, .ref m0a54, .ref m0a55, .ref m0a56, .ref m0a57, .ref m0a58, .ref m0a59, .ref m0a60, .ref m0a61, .ref m0a62, .ref m0a63, .long 0, .int 0, .int (-9), .ref m0a67, .ref m0a68, .ref m0a69, .ref m0a70, .ref m0a71, .ref m0a72, .ref m0a73, .ref m0a74, .ref m0a75, .long 0]))]) [0] rfl rfl
  refine lv_aload_n hx hb dL_law_691 rfl (lv_at hl 1 rfl) ?_
  refine lv_aload_n hx hb dL_law_692 rfl (lv_at hl 3 rfl) ?_
  refine lv_iload_n hx hb dL_law_693 rfl (lv_at hl 0 rfl) ?_
  refine lv_iconst (v := 1) hx hb dL_law_694 (by decide) ?_
  refine lv_iadd hx hb dL_law_695 ?_
  refine lv_topk (v := 1) (by decide) ?_
  refine va_sld hx hb hX hbl hbA hS (by unfold vp_in; decide) dL_law_696 ?_
  refine lv_topk (v := scr 1) rfl ?_
  refine lv_aload_n hx hb dL_law_697 rfl (lv_at hl 3 rfl) ?_
  refine lv_iload_n hx hb dL_law_698 rfl (lv_at hl 0 rfl) ?_
  refine lv_iconst (v := 2) hx hb dL_law_699 (by decide) ?_
  refine lv_iadd hx hb dL_law_700 ?_
  refine lv_topk (v := 2) (by decide) ?_
  refine va_sld hx hb hX hbl hbA hS (by unfold vp_in; decide) dL_law_701 ?_
  refine lv_topk (v := scr 2) rfl ?_
  refine kVi (As := [.int (scr 1), .int (scr 2)]) (rest := [.int r_1]) (wr := []) X (c_X12_value l g m0 (scr 1) (scr 2) m0a1 m0a5 m0a6 m0a7 m0a8 m0a9 m0a11 m0a12 m0a13 m0a14 m0a15 m0a16 m0a18 m0a19 m0a20 m0a21 m0a22 m0a24 m0a25 m0a26 m0a28 m0a29 m0a30 m0a31 m0a33 m0a34 m0a35 m0a36 m0a37 m0a38 m0a39 m0a40 m0a41 m0a42 m0a43 m0a44 m0a45 m0a46 m0a47 m0a49 m0a50 m0a51 m0a53 m0a54 m0a55 m0a56 m0a57 m0a58 m0a59 m0a60 m0a61 m0a62 m0a63 m0a67 m0a68 m0a69 m0a70 m0a71 m0a72 m0a73 m0a74 m0a75) ok_X12_value okv_X12_value q_1819 rfl hK hP hD hS hA hZ hl.1 [0] [] rfl rfl rfl rfl rfl 0 12 rfl rfl rfl (Nat.le_of_ble_eq_true rfl) ⟨Nat.le_of_ble_eq_true rfl, Nat.le_of_ble_eq_true rfl⟩ dL_law_702 ⟨Nat.le_of_ble_eq_true rfl, Nat.le_of_ble_eq_true rfl⟩ (fun r_3 w1 H locs hw_4 hP hD hS => ?_)
  have hP := pSub hP (ws' := []) [] rfl
  have hD := hD.sub (ws' := []) [] rfl rfl
  refine lv_icmp_eq (tgt := 1955) hx hb dL_law_705 (by decide) (fun _ => ?_) (fun c => absurd (hw_2.trans ((eq_value g x0 (scr 1) (scr 2) xr xt xg xb xp xu xm xd xw xh xa xs xf xba0 xba1 xba2 xba3 xba4 xba5 xba6 xba7 xba8 xba9 xba10 xba11 m0 m0a1 m0a5 m0a6 m0a7 m0a8 m0a9 m0a11 m0a12 m0a13 m0a14 m0a15 m0a16 m0a18 m0a19 m0a20 m0a21 m0a22 m0a24 m0a25 m0a26 m0a28 m0a29 m0a30 m0a31 m0a33 m0a34 m0a35 m0a36 m0a37 m0a38 m0a39 m0a40 m0a41 m0a42 m0a43 m0a44 m0a45 m0a46 m0a47 m0a49 m0a50 m0a51 m0a53 m0a54 m0a55 m0a56 m0a57 m0a58 m0a59 m0a60 m0a61 m0a62 m0a63 m0a67 m0a68 m0a69 m0a70 m0a71 m0a72 m0a73 m0a74 m0a75).trans hw_4.symm)) c)
  exact kend _ _ _ hS (lv_sub hl [3, 0] rfl)
set_option maxHeartbeats 4000000 in
set_option maxRecDepth 100000 in
theorem law_12 (l : Launch) (g : GG) {p : Program} {e : Env} {s : State} {m : MethodId} {below : List Frame} {meth : Method} {c : Code} {b : Nat} {scr : Nat → Int32} (X : En p s m #[Value.ref b] meth c cL_law 4 ret R_law meth.name) (hK : va_K g.1 classes (tyG g) s) (hA : ∀ q, s.heap.size ≤ q → laA s q) (hZ : stS g (laA s) s s.heap) (hX : va_X b 6 scr s s.heap) (hbl : b < s.heap.size) (hbA : ¬ laA s b) (x0 : Nat) (xr : Nat) (xt : Nat) (xg : Nat) (xb : Nat) (xp : Nat) (xu : Nat) (xm : Nat) (xd : Nat) (xw : Nat) (xh : Nat) (xa : Nat) (xs : Nat) (xf : Nat) (xba0 : Nat) (xba1 : Nat) (xba2 : Nat) (xba3 : Nat) (xba4 : Nat) (xba5 : Nat) (xba6 : Nat) (xba7 : Nat) (xba8 : Nat) (xba9 : Nat) (xba10 : Nat) (xba11 : Nat) (m0 : Nat) (m0a1 : Nat) (m0a5 : Nat) (m0a6 : Nat) (m0a7 : Nat) (m0a8 : Nat) (m0a9 : Nat) (m0a11 : Nat) (m0a12 : Nat) (m0a13 : Nat) (m0a14 : Nat) (m0a15 : Nat) (m0a16 : Nat) (m0a18 : Nat) (m0a19 : Nat) (m0a20 : Nat) (m0a21 : Nat) (m0a22 : Nat) (m0a24 : Nat) (m0a25 : Nat) (m0a26 : Nat) (m0a28 : Nat) (m0a29 : Nat) (m0a30 : Nat) (m0a31 : Nat) (m0a33 : Nat) (m0a34 : Nat) (m0a35 : Nat) (m0a36 : Nat) (m0a37 : Nat) (m0a38 : Nat) (m0a39 : Nat) (m0a40 : Nat) (m0a41 : Nat) (m0a42 : Nat) (m0a43 : Nat) (m0a44 : Nat) (m0a45 : Nat) (m0a46 : Nat) (m0a47 : Nat) (m0a49 : Nat) (m0a50 : Nat) (m0a51 : Nat) (m0a53 : Nat) (m0a54 : Nat) (m0a55 : Nat) (m0a56 : Nat) (m0a57 : Nat) (m0a58 : Nat) (m0a59 : Nat) (m0a60 : Nat) (m0a61 : Nat) (m0a62 : Nat) (m0a63 : Nat) (m0a67 : Nat) (m0a68 : Nat) (m0a69 : Nat) (m0a70 : Nat) (m0a71 : Nat) (m0a72 : Nat) (m0a73 : Nat) (m0a74 : Nat) (m0a75 : Nat) {H : Heap} {locs : List Loc} {ls : Array Slot} (hP : va_P g.1 classes [(x0, .inr (11, [.ref xr, .ref xt, .ref xg, .ref xb, .ref xp, .ref xu, .ref xm, .ref xd, .ref xw, .ref xh, .ref xa, .ref xs, .ref xf, .int 0, .int 0, .long 0, .long 0, .int 0])), (xb, .inr (1, [.ref xba0, .ref xba1, .ref xba2, .ref xba3, .ref xba4, .ref xba5, .ref xba6, .ref xba7, .ref xba8, .ref xba9, .ref xba10, .ref xba11, .int 0, .int 0])), (m0, .inr (12, [.int 0, .ref m0a1, .int 0, .long 0, .int 0, .ref m0a5, .ref m0a6, .ref m0a7, .ref m0a8, .ref m0a9, .int 0, .ref m0a11, .ref m0a12, .ref m0a13, .ref m0a14, .ref m0a15, .ref m0a16, .int 0, .ref m0a18, .ref m0a19, .ref m0a20, .ref m0a21, .ref m0a22, .int 0, .ref m0a24, .ref m0a25, .ref m0a26, .int 0, .ref m0a28, .ref m0a29, .ref m0a30, .ref m0a31, .int 0, .ref m0a33, .ref m0a34, .ref m0a35, .ref m0a36, .ref m0a37, .ref m0a38, .ref m0a39, .ref m0a40, .ref m0a41, .ref m0a42, .ref m0a43, .ref m0a44, .ref m0a45, .ref m0a46, .ref m0a47, .int 0, .ref m0a49, .ref m0a50, .ref m0a51, .int 0, .ref m0a53, .ref m0a54, .ref m0a55, .ref m0a56, .ref m0a57, .ref m0a58, .ref m0a59, .ref m0a60, .ref m0a61, .ref m0a62, .ref m0a63, .long 0, .int 0, .int (-9), .ref m0a67, .ref m0a68, .ref m0a69, .ref m0a70, .ref m0a71, .ref m0a72, .ref m0a73, .ref m0a74, .ref m0a75, .long 0]))] H) (hD : va_D (laA s) [(x0, .inr (11, [.ref xr, .ref xt, .ref xg, .ref xb, .ref xp, .ref xu, .ref xm, .ref xd, .ref xw, .ref xh, .ref xa, .ref xs, .ref xf, .int 0, .int 0, .long 0, .long 0, .int 0])), (xb, .inr (1, [.ref xba0, .ref xba1, .ref xba2, .ref xba3, .ref xba4, .ref xba5, .ref xba6, .ref xba7, .ref xba8, .ref xba9, .ref xba10, .ref xba11, .int 0, .int 0])), (m0, .inr (12, [.int 0, .ref m0a1, .int 0, .long 0, .int 0, .ref m0a5, .ref m0a6, .ref m0a7, .ref m0a8, .ref m0a9, .int 0, .ref m0a11, .ref m0a12, .ref m0a13, .ref m0a14, .ref m0a15, .ref m0a16, .int 0, .ref m0a18, .ref m0a19, .ref m0a20, .ref m0a21, .ref m0a22, .int 0, .ref m0a24, .ref m0a25, .ref m0a26, .int 0, .ref m0a28, .ref m0a29, .ref m0a30, .ref m0a31, .int 0, .ref m0a33, .ref m0a34, .ref m0a35, .ref m0a36, .ref m0a37, .ref m0a38, .ref m0a39, .ref m0a40, .ref m0a41, .ref m0a42, .ref m0a43, .ref m0a44, .ref m0a45, .ref m0a46, .ref m0a47, .int 0, .ref m0a49, .ref m0a50, .ref m0a51, .int 0, .ref m0a53, .ref m0a54, .ref m0a55, .ref m0a56, .ref m0a57, .ref m0a58, .ref m0a59, .ref m0a60, .ref m0a61, .ref m0a62, .ref m0a63, .long 0, .int 0, .int (-9), .ref m0a67, .ref m0a68, .ref m0a69, .ref m0a70, .ref m0a71, .ref m0a72, .ref m0a73, .ref m0a74, .ref m0a75, .long 0]))]) (hS : va_S (laA s) s.heap H locs) (hl : lv_has ls 4 [(3, .int 0), (2, .ref m0), (1, .ref x0), (0, .ref b)]) {Q : State → Prop} (kend : ∀ (H : Heap) (locs : List Loc) (ls : Array Slot), va_S (laA s) s.heap H locs → lv_has ls 4 [(0, .ref b), (3, .int 0)] → W p l e room_1 s m #[Value.ref b] below meth c H locs 141 11384 Q (F0 m 1955 ls [])) : W p l e room_1 s m #[Value.ref b] below meth c H locs 141 11384 Q (F0 m 710 ls []) := by
  have hx := X.1
  have hb := X.2.1
  have hml := X.2.2.1
  have hown := X.2.2.2.1
  have hts := X.2.2.2.2.1
  refine lv_aload_n hx hb dL_law_710 rfl (lv_at hl 2 rfl) ?_
  refine lv_aload_n hx hb dL_law_711 rfl (lv_at hl 3 rfl) ?_
  refine lv_iload_n hx hb dL_law_712 rfl (lv_at hl 0 rfl) ?_
  refine lv_iconst (v := 1) hx hb dL_law_713 (by decide) ?_
  refine lv_iadd hx hb dL_law_714 ?_
  refine lv_topk (v := 1) (by decide) ?_
  refine va_sld hx hb hX hbl hbA hS (by unfold vp_in; decide) dL_law_715 ?_
  refine lv_topk (v := scr 1) rfl ?_
  refine lv_aload_n hx hb dL_law_716 rfl (lv_at hl 3 rfl) ?_
  refine lv_iload_n hx hb dL_law_717 rfl (lv_at hl 0 rfl) ?_
  refine lv_iconst (v := 2) hx hb dL_law_718 (by decide) ?_
  refine lv_iadd hx hb dL_law_719 ?_
  refine lv_topk (v := 2) (by decide) ?_
  refine va_sld hx hb hX hbl hbA hS (by unfold vp_in; decide) dL_law_720 ?_
  refine lv_topk (v := scr 2) rfl ?_
  refine kVi (As := [.int (scr 1), .int (scr 2)]) (rest := []) (wr := [(m0, .inr (12, [.int 0, .ref m0a1, .int 0, .long 0, .int 0, .ref m0a5, .ref m0a6, .ref m0a7, .ref m0a8, .ref m0a9, .int 0, .ref m0a11, .ref m0a12, .ref m0a13, .ref m0a14, .ref m0a15, .ref m0a16, .int 0, .ref m0a18, .ref m0a19, .ref m0a20, .ref m0a21, .ref m0a22, .int 0, .ref m0a24, .ref m0a25, .ref m0a26, .int 0, .ref m0a28, .ref m0a29, .ref m0a30, .ref m0a31, .int 0, .ref m0a33, .ref m0a34, .ref m0a35, .ref m0a36, .ref m0a37, .ref m0a38, .ref m0a39, .ref m0a40, .ref m0a41, .ref m0a42, .ref m0a43, .ref m0a44, .ref m0a45, .ref m0a46, .ref m0a47, .int 0, .ref m0a49, .ref m0a50, .ref m0a51, .int 0, .ref m0a53, .ref m0a54, .ref m0a55, .ref m0a56, .ref m0a57, .ref m0a58, .ref m0a59, .ref m0a60, .ref m0a61, .ref m0a62, .ref m0a63, .long 0, .int 0, .int (-9), .ref m0a67, .ref m0a68, .ref m0a69, .ref m0a70, .ref m0a71, .ref m0a72, .ref m0a73, .ref m0a74, .ref m0a75, .long 0]))]) X (c_X11_house l g x0 (scr 1) (scr 2) xr xt xg xb xp xu xm xd xw xh xa xs xf xba0 xba1 xba2 xba3 xba4 xba5 xba6 xba7 xba8 xba9 xba10 xba11) ok_X11_house okv_X11_house q_691 rfl hK hP hD hS hA hZ hl.1 [0, 1] [2] rfl rfl rfl rfl rfl 0 11 rfl rfl rfl (Nat.le_of_ble_eq_true rfl) ⟨Nat.le_of_ble_eq_true rfl, Nat.le_of_ble_eq_true rfl⟩ dL_law_721 ⟨Nat.le_of_ble_eq_true rfl, Nat.le_of_ble_eq_true rfl⟩ (fun r_1 w1 H locs hw_2 hP hD hS => ?_)
  have hP := pSub hP (ws' := [(m0, .inr (12, [.int 0, .ref m0a1, .int 0, .long 0, .int 0, .ref m0a5, .ref m0a6, .ref m0a7, .ref m0a8, .ref m0a9, .int 0, .ref m0a11, .ref m0a12, .ref m0a13, .ref m0a14, .ref m0a15, .ref m0a16, .int 0, .ref m0a18, .ref m0a19, .ref m0a20, .ref m0a21, .ref m0a22, .int 0, .ref m0a24, .ref m0a25, .ref m0a26, .int 0, .ref m0a28, .ref m0a29, .ref m0a30, .ref m0a31, .int 0, .ref m0a33, .ref m0a34, .ref m0a35, .ref m0a36, .ref m0a37, .ref m0a38, .ref m0a39, .ref m0a40, .ref m0a41, .ref m0a42, .ref m0a43, .ref m0a44, .ref m0a45, .ref m0a46, .ref m0a47, .int 0, .ref m0a49, .ref m0a50, .ref m0a51, .int 0, .ref m0a53, .ref m0a54, .ref m0a55, .ref m0a56, .ref m0a57, .ref m0a58, .ref m0a59, .ref m0a60, .ref m0a61, .ref m0a62, .ref m0a63, .long 0, .int 0, .int (-9), .ref m0a67, .ref m0a68, .ref m0a69, .ref m0a70, .ref m0a71, .ref m0a72, .ref m0a73, .ref m0a74, .ref m0a75, .long 0]))]) [0] rfl
  have hD := hD.sub (ws' := [(m0, .inr (12, [.int 0, .ref m0a1, .int 0, .long 0, .int 0, .ref m0a5, .ref m0a6, .ref m0a7, .ref m0a8, .ref m0a9, .int 0, .ref m0a11, .ref m0a12, .ref m0a13, .ref m0a14, .ref m0a15, .ref m0a16, .int 0, .ref m0a18, .ref m0a19, .ref m0a20, .ref m0a21, .ref m0a22, .int 0, .ref m0a24, .ref m0a25, .ref m0a26, .int 0, .ref m0a28, .ref m0a29, .ref m0a30, .ref m0a31, .int 0, .ref m0a33, .ref m0a34, .ref m0a35, .ref m0a36, .ref m0a37, .ref m0a38, .ref m0a39, .ref m0a40, .ref m0a41, .ref m0a42, .ref m0a43, .ref m0a44, .ref m0a45, .ref m0a46, .ref m0a47, .int 0, .ref m0a49, .ref m0a50, .ref m0a51, .int 0, .ref m0a53, .ref m0a54, .ref m0a55, .ref m0a56, .ref m0a57, .ref m0a58, .ref m0a59, .ref m0a60, .ref m0a61, .ref m0a62, .ref m0a63, .long 0, .int 0, .int (-9), .ref m0a67, .ref m0a68, .ref m0a69, .ref m0a70, .ref m0a71, .ref m0a72, .ref m0a73, .ref m0a74, .ref m0a75, .long 0]))]) [0] rfl rfl
  refine lv_aload_n hx hb dL_law_724 rfl (lv_at hl 1 rfl) ?_
  refine lv_aload_n hx hb dL_law_725 rfl (lv_at hl 3 rfl) ?_
  refine lv_iload_n hx hb dL_law_726 rfl (lv_at hl 0 rfl) ?_
  refine lv_iconst (v := 1) hx hb dL_law_727 (by decide) ?_
  refine lv_iadd hx hb dL_law_728 ?_
  refine lv_topk (v := 1) (by decide) ?_
  refine va_sld hx hb hX hbl hbA hS (by unfold vp_in; decide) dL_law_729 ?_
  refine lv_topk (v := scr 1) rfl ?_
  refine lv_aload_n hx hb dL_law_730 rfl (lv_at hl 3 rfl) ?_
  refine lv_iload_n hx hb dL_law_731 rfl (lv_at hl 0 rfl) ?_
  refine lv_iconst (v := 2) hx hb dL_law_732 (by decide) ?_
  refine lv_iadd hx hb dL_law_733 ?_
  refine lv_topk (v := 2) (by decide) ?_
  refine va_sld hx hb hX hbl hbA hS (by unfold vp_in; decide) dL_law_734 ?_
  refine lv_topk (v := scr 2) rfl ?_
  refine kVi (As := [.int (scr 1), .int (scr 2)]) (rest := [.int r_1]) (wr := []) X (c_X12_house l g m0 (scr 1) (scr 2) m0a1 m0a5 m0a6 m0a7 m0a8 m0a9 m0a11 m0a12 m0a13 m0a14 m0a15 m0a16 m0a18 m0a19 m0a20 m0a21 m0a22 m0a24 m0a25 m0a26 m0a28 m0a29 m0a30 m0a31 m0a33 m0a34 m0a35 m0a36 m0a37 m0a38 m0a39 m0a40 m0a41 m0a42 m0a43 m0a44 m0a45 m0a46 m0a47 m0a49 m0a50 m0a51 m0a53 m0a54 m0a55 m0a56 m0a57 m0a58 m0a59 m0a60 m0a61 m0a62 m0a63 m0a67 m0a68 m0a69 m0a70 m0a71 m0a72 m0a73 m0a74 m0a75) ok_X12_house okv_X12_house q_1823 rfl hK hP hD hS hA hZ hl.1 [0] [] rfl rfl rfl rfl rfl 0 12 rfl rfl rfl (Nat.le_of_ble_eq_true rfl) ⟨Nat.le_of_ble_eq_true rfl, Nat.le_of_ble_eq_true rfl⟩ dL_law_735 ⟨Nat.le_of_ble_eq_true rfl, Nat.le_of_ble_eq_true rfl⟩ (fun r_3 w1 H locs hw_4 hP hD hS => ?_)
  have hP := pSub hP (ws' := []) [] rfl
  have hD := hD.sub (ws' := []) [] rfl rfl
  refine lv_icmp_eq (tgt := 1955) hx hb dL_law_738 (by decide) (fun _ => ?_) (fun c => absurd (hw_2.trans ((eq_house g x0 (scr 1) (scr 2) xr xt xg xb xp xu xm xd xw xh xa xs xf xba0 xba1 xba2 xba3 xba4 xba5 xba6 xba7 xba8 xba9 xba10 xba11 m0 m0a1 m0a5 m0a6 m0a7 m0a8 m0a9 m0a11 m0a12 m0a13 m0a14 m0a15 m0a16 m0a18 m0a19 m0a20 m0a21 m0a22 m0a24 m0a25 m0a26 m0a28 m0a29 m0a30 m0a31 m0a33 m0a34 m0a35 m0a36 m0a37 m0a38 m0a39 m0a40 m0a41 m0a42 m0a43 m0a44 m0a45 m0a46 m0a47 m0a49 m0a50 m0a51 m0a53 m0a54 m0a55 m0a56 m0a57 m0a58 m0a59 m0a60 m0a61 m0a62 m0a63 m0a67 m0a68 m0a69 m0a70 m0a71 m0a72 m0a73 m0a74 m0a75).trans hw_4.symm)) c)
  exact kend _ _ _ hS (lv_sub hl [3, 0] rfl)
set_option maxHeartbeats 4000000 in
set_option maxRecDepth 100000 in
theorem law_13 (l : Launch) (g : GG) {p : Program} {e : Env} {s : State} {m : MethodId} {below : List Frame} {meth : Method} {c : Code} {b : Nat} {scr : Nat → Int32} (X : En p s m #[Value.ref b] meth c cL_law 4 ret R_law meth.name) (hK : va_K g.1 classes (tyG g) s) (hA : ∀ q, s.heap.size ≤ q → laA s q) (hZ : stS g (laA s) s s.heap) (hX : va_X b 6 scr s s.heap) (hbl : b < s.heap.size) (hbA : ¬ laA s b) (x0 : Nat) (xr : Nat) (xt : Nat) (xg : Nat) (xb : Nat) (xp : Nat) (xu : Nat) (xm : Nat) (xd : Nat) (xw : Nat) (xh : Nat) (xa : Nat) (xs : Nat) (xf : Nat) (xba0 : Nat) (xba1 : Nat) (xba2 : Nat) (xba3 : Nat) (xba4 : Nat) (xba5 : Nat) (xba6 : Nat) (xba7 : Nat) (xba8 : Nat) (xba9 : Nat) (xba10 : Nat) (xba11 : Nat) (xpa0 : Nat) (xpa1 : Nat) (xpa2 : Nat) (xpa3 : Nat) (m0 : Nat) (m0a1 : Nat) (m0a5 : Nat) (m0a6 : Nat) (m0a7 : Nat) (m0a8 : Nat) (m0a9 : Nat) (m0a11 : Nat) (m0a12 : Nat) (m0a13 : Nat) (m0a14 : Nat) (m0a15 : Nat) (m0a16 : Nat) (m0a18 : Nat) (m0a19 : Nat) (m0a20 : Nat) (m0a21 : Nat) (m0a22 : Nat) (m0a24 : Nat) (m0a25 : Nat) (m0a26 : Nat) (m0a28 : Nat) (m0a29 : Nat) (m0a30 : Nat) (m0a31 : Nat) (m0a33 : Nat) (m0a34 : Nat) (m0a35 : Nat) (m0a36 : Nat) (m0a37 : Nat) (m0a38 : Nat) (m0a39 : Nat) (m0a40 : Nat) (m0a41 : Nat) (m0a42 : Nat) (m0a43 : Nat) (m0a44 : Nat) (m0a45 : Nat) (m0a46 : Nat) (m0a47 : Nat) (m0a49 : Nat) (m0a50 : Nat) (m0a51 : Nat) (m0a53 : Nat) (m0a54 : Nat) (m0a55 : Nat) (m0a56 : Nat) (m0a57 : Nat) (m0a58 : Nat) (m0a59 : Nat) (m0a60 : Nat) (m0a61 : Nat) (m0a62 : Nat) (m0a63 : Nat) (m0a67 : Nat) (m0a68 : Nat) (m0a69 : Nat) (m0a70 : Nat) (m0a71 : Nat) (m0a72 : Nat) (m0a73 : Nat) (m0a74 : Nat) (m0a75 : Nat) {H : Heap} {locs : List Loc} {ls : Array Slot} (hP : va_P g.1 classes [(x0, .inr (11, [.ref xr, .ref xt, .ref xg, .ref xb, .ref xp, .ref xu, .ref xm, .ref xd, .ref xw, .ref xh, .ref xa, .ref xs, .ref xf, .int 0, .int 0, .long 0, .long 0, .int 0])), (xb, .inr (1, [.ref xba0, .ref xba1, .ref xba2, .ref xba3, .ref xba4, .ref xba5, .ref xba6, .ref xba7, .ref xba8, .ref xba9, .ref xba10, .ref xba11, .int 0, .int 0])), (xp, .inr (5, [.ref xpa0, .ref xpa1, .ref xpa2, .ref xpa3, .int 0])), (xpa0, .inl (cI g, 40, .inl (fun _ => 0))), (xpa1, .inl (cI g, 40, .inl (fun _ => 0))), (xpa2, .inl (cZ g, 40, .inl (fun _ => 0))), (xpa3, .inl (cI g, 40, .inl (fun _ => 0))), (m0, .inr (12, [.int 0, .ref m0a1, .int 0, .long 0, .int 0, .ref m0a5, .ref m0a6, .ref m0a7, .ref m0a8, .ref m0a9, .int 0, .ref m0a11, .ref m0a12, .ref m0a13, .ref m0a14, .ref m0a15, .ref m0a16, .int 0, .ref m0a18, .ref m0a19, .ref m0a20, .ref m0a21, .ref m0a22, .int 0, .ref m0a24, .ref m0a25, .ref m0a26, .int 0, .ref m0a28, .ref m0a29, .ref m0a30, .ref m0a31, .int 0, .ref m0a33, .ref m0a34, .ref m0a35, .ref m0a36, .ref m0a37, .ref m0a38, .ref m0a39, .ref m0a40, .ref m0a41, .ref m0a42, .ref m0a43, .ref m0a44, .ref m0a45, .ref m0a46, .ref m0a47, .int 0, .ref m0a49, .ref m0a50, .ref m0a51, .int 0, .ref m0a53, .ref m0a54, .ref m0a55, .ref m0a56, .ref m0a57, .ref m0a58, .ref m0a59, .ref m0a60, .ref m0a61, .ref m0a62, .ref m0a63, .long 0, .int 0, .int (-9), .ref m0a67, .ref m0a68, .ref m0a69, .ref m0a70, .ref m0a71, .ref m0a72, .ref m0a73, .ref m0a74, .ref m0a75, .long 0])), (m0a28, .inl (cI g, 40, .inl (fun _ => 0))), (m0a29, .inl (cI g, 40, .inl (fun _ => 0))), (m0a30, .inl (cZ g, 40, .inl (fun _ => 0))), (m0a31, .inl (cI g, 40, .inl (fun _ => 0)))] H) (hD : va_D (laA s) [(x0, .inr (11, [.ref xr, .ref xt, .ref xg, .ref xb, .ref xp, .ref xu, .ref xm, .ref xd, .ref xw, .ref xh, .ref xa, .ref xs, .ref xf, .int 0, .int 0, .long 0, .long 0, .int 0])), (xb, .inr (1, [.ref xba0, .ref xba1, .ref xba2, .ref xba3, .ref xba4, .ref xba5, .ref xba6, .ref xba7, .ref xba8, .ref xba9, .ref xba10, .ref xba11, .int 0, .int 0])), (xp, .inr (5, [.ref xpa0, .ref xpa1, .ref xpa2, .ref xpa3, .int 0])), (xpa0, .inl (cI g, 40, .inl (fun _ => 0))), (xpa1, .inl (cI g, 40, .inl (fun _ => 0))), (xpa2, .inl (cZ g, 40, .inl (fun _ => 0))), (xpa3, .inl (cI g, 40, .inl (fun _ => 0))), (m0, .inr (12, [.int 0, .ref m0a1, .int 0, .long 0, .int 0, .ref m0a5, .ref m0a6, .ref m0a7, .ref m0a8, .ref m0a9, .int 0, .ref m0a11, .ref m0a12, .ref m0a13, .ref m0a14, .ref m0a15, .ref m0a16, .int 0, .ref m0a18, .ref m0a19, .ref m0a20, .ref m0a21, .ref m0a22, .int 0, .ref m0a24, .ref m0a25, .ref m0a26, .int 0, .ref m0a28, .ref m0a29, .ref m0a30, .ref m0a31, .int 0, .ref m0a33, .ref m0a34, .ref m0a35, .ref m0a36, .ref m0a37, .ref m0a38, .ref m0a39, .ref m0a40, .ref m0a41, .ref m0a42, .ref m0a43, .ref m0a44, .ref m0a45, .ref m0a46, .ref m0a47, .int 0, .ref m0a49, .ref m0a50, .ref m0a51, .int 0, .ref m0a53, .ref m0a54, .ref m0a55, .ref m0a56, .ref m0a57, .ref m0a58, .ref m0a59, .ref m0a60, .ref m0a61, .ref m0a62, .ref m0a63, .long 0, .int 0, .int (-9), .ref m0a67, .ref m0a68, .ref m0a69, .ref m0a70, .ref m0a71, .ref m0a72, .ref m0a73, .ref m0a74, .ref m0a75, .long 0])), (m0a28, .inl (cI g, 40, .inl (fun _ => 0))), (m0a29, .inl (cI g, 40, .inl (fun _ => 0))), (m0a30, .inl (cZ g, 40, .inl (fun _ => 0))), (m0a31, .inl (cI g, 40, .inl (fun _ => 0)))]) (hS : va_S (laA s) s.heap H locs) (hl : lv_has ls 4 [(3, .int 0), (2, .ref m0), (1, .ref x0), (0, .ref b)]) {Q : State → Prop} (kend : ∀ (H : Heap) (locs : List Loc) (ls : Array Slot), va_S (laA s) s.heap H locs → lv_has ls 4 [(0, .ref b), (3, .int 0)] → W p l e room_1 s m #[Value.ref b] below meth c H locs 141 11384 Q (F0 m 1955 ls [])) : W p l e room_1 s m #[Value.ref b] below meth c H locs 141 11384 Q (F0 m 743 ls []) := by
  have hx := X.1
  have hb := X.2.1
  have hml := X.2.2.1
  have hown := X.2.2.2.1
  have hts := X.2.2.2.2.1
  refine lv_aload_n hx hb dL_law_743 rfl (lv_at hl 2 rfl) ?_
  refine lv_aload_n hx hb dL_law_744 rfl (lv_at hl 3 rfl) ?_
  refine lv_iload_n hx hb dL_law_745 rfl (lv_at hl 0 rfl) ?_
  refine lv_iconst (v := 1) hx hb dL_law_746 (by decide) ?_
  refine lv_iadd hx hb dL_law_747 ?_
  refine lv_topk (v := 1) (by decide) ?_
  refine va_sld hx hb hX hbl hbA hS (by unfold vp_in; decide) dL_law_748 ?_
  refine lv_topk (v := scr 1) rfl ?_
  refine lv_aload_n hx hb dL_law_749 rfl (lv_at hl 3 rfl) ?_
  refine lv_iload_n hx hb dL_law_750 rfl (lv_at hl 0 rfl) ?_
  refine lv_iconst (v := 2) hx hb dL_law_751 (by decide) ?_
  refine lv_iadd hx hb dL_law_752 ?_
  refine lv_topk (v := 2) (by decide) ?_
  refine va_sld hx hb hX hbl hbA hS (by unfold vp_in; decide) dL_law_753 ?_
  refine lv_topk (v := scr 2) rfl ?_
  refine lv_aload_n hx hb dL_law_754 rfl (lv_at hl 3 rfl) ?_
  refine lv_iload_n hx hb dL_law_755 rfl (lv_at hl 0 rfl) ?_
  refine lv_iconst (v := 3) hx hb dL_law_756 (by decide) ?_
  refine lv_iadd hx hb dL_law_757 ?_
  refine lv_topk (v := 3) (by decide) ?_
  refine va_sld hx hb hX hbl hbA hS (by unfold vp_in; decide) dL_law_758 ?_
  refine lv_topk (v := scr 3) rfl ?_
  refine lv_if_eq (tgt := 766) hx hb dL_law_759 (by decide) (fun c_1 => ?_) (fun c_1 => ?_)
  ·
    refine lv_iconst (v := 0) hx hb dL_law_766 (by decide) ?_
    refine lv_aload_n hx hb dL_law_767 rfl (lv_at hl 3 rfl) ?_
    refine lv_iload_n hx hb dL_law_768 rfl (lv_at hl 0 rfl) ?_
    refine lv_iconst (v := 4) hx hb dL_law_769 (by decide) ?_
    refine lv_iadd hx hb dL_law_770 ?_
    refine lv_topk (v := 4) (by decide) ?_
    refine va_sld hx hb hX hbl hbA hS (by unfold vp_in; decide) dL_law_771 ?_
    refine lv_topk (v := scr 4) rfl ?_
    refine kVi (As := [.int (scr 1), .int (scr 2), .int 0, .int (scr 4)]) (rest := []) (wr := [(m0, .inr (12, [.int 0, .ref m0a1, .int 0, .long 0, .int 0, .ref m0a5, .ref m0a6, .ref m0a7, .ref m0a8, .ref m0a9, .int 0, .ref m0a11, .ref m0a12, .ref m0a13, .ref m0a14, .ref m0a15, .ref m0a16, .int 0, .ref m0a18, .ref m0a19, .ref m0a20, .ref m0a21, .ref m0a22, .int 0, .ref m0a24, .ref m0a25, .ref m0a26, .int 0, .ref m0a28, .ref m0a29, .ref m0a30, .ref m0a31, .int 0, .ref m0a33, .ref m0a34, .ref m0a35, .ref m0a36, .ref m0a37, .ref m0a38, .ref m0a39, .ref m0a40, .ref m0a41, .ref m0a42, .ref m0a43, .ref m0a44, .ref m0a45, .ref m0a46, .ref m0a47, .int 0, .ref m0a49, .ref m0a50, .ref m0a51, .int 0, .ref m0a53, .ref m0a54, .ref m0a55, .ref m0a56, .ref m0a57, .ref m0a58, .ref m0a59, .ref m0a60, .ref m0a61, .ref m0a62, .ref m0a63, .long 0, .int 0, .int (-9), .ref m0a67, .ref m0a68, .ref m0a69, .ref m0a70, .ref m0a71, .ref m0a72, .ref m0a73, .ref m0a74, .ref m0a75, .long 0])), (m0a28, .inl (cI g, 40, .inl (fun _ => 0))), (m0a29, .inl (cI g, 40, .inl (fun _ => 0))), (m0a30, .inl (cZ g, 40, .inl (fun _ => 0))), (m0a31, .inl (cI g, 40, .inl (fun _ => 0)))]) X (c_X11_person l g x0 (scr 1) (scr 2) 0 (scr 4) xr xt xg xb xp xu xm xd xw xh xa xs xf xba0 xba1 xba2 xba3 xba4 xba5 xba6 xba7 xba8 xba9 xba10 xba11 xpa0 xpa1 xpa2 xpa3) ok_X11_person okv_X11_person q_699 rfl hK hP hD hS hA hZ hl.1 [0, 1, 2, 3, 4, 5, 6] [7, 8, 9, 10, 11] rfl rfl rfl rfl rfl 0 11 rfl rfl rfl (Nat.le_of_ble_eq_true rfl) ⟨Nat.le_of_ble_eq_true rfl, Nat.le_of_ble_eq_true rfl⟩ dL_law_772 ⟨Nat.le_of_ble_eq_true rfl, Nat.le_of_ble_eq_true rfl⟩ (fun r_2 w1 H locs hw_3 hP hD hS => ?_)
    have hP := pSub hP (ws' := [(m0, .inr (12, [.int 0, .ref m0a1, .int 0, .long 0, .int 0, .ref m0a5, .ref m0a6, .ref m0a7, .ref m0a8, .ref m0a9, .int 0, .ref m0a11, .ref m0a12, .ref m0a13, .ref m0a14, .ref m0a15, .ref m0a16, .int 0, .ref m0a18, .ref m0a19, .ref m0a20, .ref m0a21, .ref m0a22, .int 0, .ref m0a24, .ref m0a25, .ref m0a26, .int 0, .ref m0a28, .ref m0a29, .ref m0a30, .ref m0a31, .int 0, .ref m0a33, .ref m0a34, .ref m0a35, .ref m0a36, .ref m0a37, .ref m0a38, .ref m0a39, .ref m0a40, .ref m0a41, .ref m0a42, .ref m0a43, .ref m0a44, .ref m0a45, .ref m0a46, .ref m0a47, .int 0, .ref m0a49, .ref m0a50, .ref m0a51, .int 0, .ref m0a53, .ref m0a54, .ref m0a55, .ref m0a56, .ref m0a57, .ref m0a58, .ref m0a59, .ref m0a60, .ref m0a61, .ref m0a62, .ref m0a63, .long 0, .int 0, .int (-9), .ref m0a67, .ref m0a68, .ref m0a69, .ref m0a70, .ref m0a71, .ref m0a72, .ref m0a73, .ref m0a74, .ref m0a75, .long 0])), (m0a28, .inl (cI g, 40, .inl (fun _ => 0))), (m0a29, .inl (cI g, 40, .inl (fun _ => 0))), (m0a30, .inl (cZ g, 40, .inl (fun _ => 0))), (m0a31, .inl (cI g, 40, .inl (fun _ => 0)))]) [0, 1, 2, 3, 4] rfl
    have hD := hD.sub (ws' := [(m0, .inr (12, [.int 0, .ref m0a1, .int 0, .long 0, .int 0, .ref m0a5, .ref m0a6, .ref m0a7, .ref m0a8, .ref m0a9, .int 0, .ref m0a11, .ref m0a12, .ref m0a13, .ref m0a14, .ref m0a15, .ref m0a16, .int 0, .ref m0a18, .ref m0a19, .ref m0a20, .ref m0a21, .ref m0a22, .int 0, .ref m0a24, .ref m0a25, .ref m0a26, .int 0, .ref m0a28, .ref m0a29, .ref m0a30, .ref m0a31, .int 0, .ref m0a33, .ref m0a34, .ref m0a35, .ref m0a36, .ref m0a37, .ref m0a38, .ref m0a39, .ref m0a40, .ref m0a41, .ref m0a42, .ref m0a43, .ref m0a44, .ref m0a45, .ref m0a46, .ref m0a47, .int 0, .ref m0a49, .ref m0a50, .ref m0a51, .int 0, .ref m0a53, .ref m0a54, .ref m0a55, .ref m0a56, .ref m0a57, .ref m0a58, .ref m0a59, .ref m0a60, .ref m0a61, .ref m0a62, .ref m0a63, .long 0, .int 0, .int (-9), .ref m0a67, .ref m0a68, .ref m0a69, .ref m0a70, .ref m0a71, .ref m0a72, .ref m0a73, .ref m0a74, .ref m0a75, .long 0])), (m0a28, .inl (cI g, 40, .inl (fun _ => 0))), (m0a29, .inl (cI g, 40, .inl (fun _ => 0))), (m0a30, .inl (cZ g, 40, .inl (fun _ => 0))), (m0a31, .inl (cI g, 40, .inl (fun _ => 0)))]) [0, 1, 2, 3, 4] rfl rfl
    refine lv_aload_n hx hb dL_law_775 rfl (lv_at hl 1 rfl) ?_
    refine lv_aload_n hx hb dL_law_776 rfl (lv_at hl 3 rfl) ?_
    refine lv_iload_n hx hb dL_law_777 rfl (lv_at hl 0 rfl) ?_
    refine lv_iconst (v := 1) hx hb dL_law_778 (by decide) ?_
    refine lv_iadd hx hb dL_law_779 ?_
    refine lv_topk (v := 1) (by decide) ?_
    refine va_sld hx hb hX hbl hbA hS (by unfold vp_in; decide) dL_law_780 ?_
    refine lv_topk (v := scr 1) rfl ?_
    refine lv_aload_n hx hb dL_law_781 rfl (lv_at hl 3 rfl) ?_
    refine lv_iload_n hx hb dL_law_782 rfl (lv_at hl 0 rfl) ?_
    refine lv_iconst (v := 2) hx hb dL_law_783 (by decide) ?_
    refine lv_iadd hx hb dL_law_784 ?_
    refine lv_topk (v := 2) (by decide) ?_
    refine va_sld hx hb hX hbl hbA hS (by unfold vp_in; decide) dL_law_785 ?_
    refine lv_topk (v := scr 2) rfl ?_
    refine lv_aload_n hx hb dL_law_786 rfl (lv_at hl 3 rfl) ?_
    refine lv_iload_n hx hb dL_law_787 rfl (lv_at hl 0 rfl) ?_
    refine lv_iconst (v := 3) hx hb dL_law_788 (by decide) ?_
    refine lv_iadd hx hb dL_law_789 ?_
    refine lv_topk (v := 3) (by decide) ?_
    refine va_sld hx hb hX hbl hbA hS (by unfold vp_in; decide) dL_law_790 ?_
    refine lv_topk (v := scr 3) rfl ?_
    refine lv_if_eq (tgt := 798) hx hb dL_law_791 (by decide) (fun _ => ?_) (fun c_4 => (by simp only [i32lt, i32le, i32eq, Int32.reduceToInt] at c_1 c_4; omega : False).elim)
    refine lv_iconst (v := 0) hx hb dL_law_798 (by decide) ?_
    refine lv_aload_n hx hb dL_law_799 rfl (lv_at hl 3 rfl) ?_
    refine lv_iload_n hx hb dL_law_800 rfl (lv_at hl 0 rfl) ?_
    refine lv_iconst (v := 4) hx hb dL_law_801 (by decide) ?_
    refine lv_iadd hx hb dL_law_802 ?_
    refine lv_topk (v := 4) (by decide) ?_
    refine va_sld hx hb hX hbl hbA hS (by unfold vp_in; decide) dL_law_803 ?_
    refine lv_topk (v := scr 4) rfl ?_
    refine kVi (As := [.int (scr 1), .int (scr 2), .int 0, .int (scr 4)]) (rest := [.int r_2]) (wr := []) X (c_X12_person l g m0 (scr 1) (scr 2) 0 (scr 4) m0a1 m0a5 m0a6 m0a7 m0a8 m0a9 m0a11 m0a12 m0a13 m0a14 m0a15 m0a16 m0a18 m0a19 m0a20 m0a21 m0a22 m0a24 m0a25 m0a26 m0a28 m0a29 m0a30 m0a31 m0a33 m0a34 m0a35 m0a36 m0a37 m0a38 m0a39 m0a40 m0a41 m0a42 m0a43 m0a44 m0a45 m0a46 m0a47 m0a49 m0a50 m0a51 m0a53 m0a54 m0a55 m0a56 m0a57 m0a58 m0a59 m0a60 m0a61 m0a62 m0a63 m0a67 m0a68 m0a69 m0a70 m0a71 m0a72 m0a73 m0a74 m0a75) ok_X12_person okv_X12_person q_1839 rfl hK hP hD hS hA hZ hl.1 [0, 1, 2, 3, 4] [] rfl rfl rfl rfl rfl 0 12 rfl rfl rfl (Nat.le_of_ble_eq_true rfl) ⟨Nat.le_of_ble_eq_true rfl, Nat.le_of_ble_eq_true rfl⟩ dL_law_804 ⟨Nat.le_of_ble_eq_true rfl, Nat.le_of_ble_eq_true rfl⟩ (fun r_5 w1 H locs hw_6 hP hD hS => ?_)
    have hP := pSub hP (ws' := []) [] rfl
    have hD := hD.sub (ws' := []) [] rfl rfl
    refine lv_icmp_eq (tgt := 1955) hx hb dL_law_807 (by decide) (fun _ => ?_) (fun c => absurd (hw_3.trans ((eq_person g x0 (scr 1) (scr 2) 0 (scr 4) xr xt xg xb xp xu xm xd xw xh xa xs xf xba0 xba1 xba2 xba3 xba4 xba5 xba6 xba7 xba8 xba9 xba10 xba11 xpa0 xpa1 xpa2 xpa3 m0 m0a1 m0a5 m0a6 m0a7 m0a8 m0a9 m0a11 m0a12 m0a13 m0a14 m0a15 m0a16 m0a18 m0a19 m0a20 m0a21 m0a22 m0a24 m0a25 m0a26 m0a28 m0a29 m0a30 m0a31 m0a33 m0a34 m0a35 m0a36 m0a37 m0a38 m0a39 m0a40 m0a41 m0a42 m0a43 m0a44 m0a45 m0a46 m0a47 m0a49 m0a50 m0a51 m0a53 m0a54 m0a55 m0a56 m0a57 m0a58 m0a59 m0a60 m0a61 m0a62 m0a63 m0a67 m0a68 m0a69 m0a70 m0a71 m0a72 m0a73 m0a74 m0a75).trans hw_6.symm)) c)
    exact kend _ _ _ hS (lv_sub hl [3, 0] rfl)
  ·
    refine lv_iconst (v := 1) hx hb dL_law_762 (by decide) ?_
    refine lv_goto (tgt := 767) hx hb dL_law_763 (by decide) ?_
    refine lv_aload_n hx hb dL_law_767 rfl (lv_at hl 3 rfl) ?_
    refine lv_iload_n hx hb dL_law_768 rfl (lv_at hl 0 rfl) ?_
    refine lv_iconst (v := 4) hx hb dL_law_769 (by decide) ?_
    refine lv_iadd hx hb dL_law_770 ?_
    refine lv_topk (v := 4) (by decide) ?_
    refine va_sld hx hb hX hbl hbA hS (by unfold vp_in; decide) dL_law_771 ?_
    refine lv_topk (v := scr 4) rfl ?_
    refine kVi (As := [.int (scr 1), .int (scr 2), .int 1, .int (scr 4)]) (rest := []) (wr := [(m0, .inr (12, [.int 0, .ref m0a1, .int 0, .long 0, .int 0, .ref m0a5, .ref m0a6, .ref m0a7, .ref m0a8, .ref m0a9, .int 0, .ref m0a11, .ref m0a12, .ref m0a13, .ref m0a14, .ref m0a15, .ref m0a16, .int 0, .ref m0a18, .ref m0a19, .ref m0a20, .ref m0a21, .ref m0a22, .int 0, .ref m0a24, .ref m0a25, .ref m0a26, .int 0, .ref m0a28, .ref m0a29, .ref m0a30, .ref m0a31, .int 0, .ref m0a33, .ref m0a34, .ref m0a35, .ref m0a36, .ref m0a37, .ref m0a38, .ref m0a39, .ref m0a40, .ref m0a41, .ref m0a42, .ref m0a43, .ref m0a44, .ref m0a45, .ref m0a46, .ref m0a47, .int 0, .ref m0a49, .ref m0a50, .ref m0a51, .int 0, .ref m0a53, .ref m0a54, .ref m0a55, .ref m0a56, .ref m0a57, .ref m0a58, .ref m0a59, .ref m0a60, .ref m0a61, .ref m0a62, .ref m0a63, .long 0, .int 0, .int (-9), .ref m0a67, .ref m0a68, .ref m0a69, .ref m0a70, .ref m0a71, .ref m0a72, .ref m0a73, .ref m0a74, .ref m0a75, .long 0])), (m0a28, .inl (cI g, 40, .inl (fun _ => 0))), (m0a29, .inl (cI g, 40, .inl (fun _ => 0))), (m0a30, .inl (cZ g, 40, .inl (fun _ => 0))), (m0a31, .inl (cI g, 40, .inl (fun _ => 0)))]) X (c_X11_person l g x0 (scr 1) (scr 2) 1 (scr 4) xr xt xg xb xp xu xm xd xw xh xa xs xf xba0 xba1 xba2 xba3 xba4 xba5 xba6 xba7 xba8 xba9 xba10 xba11 xpa0 xpa1 xpa2 xpa3) ok_X11_person okv_X11_person q_699 rfl hK hP hD hS hA hZ hl.1 [0, 1, 2, 3, 4, 5, 6] [7, 8, 9, 10, 11] rfl rfl rfl rfl rfl 0 11 rfl rfl rfl (Nat.le_of_ble_eq_true rfl) ⟨Nat.le_of_ble_eq_true rfl, Nat.le_of_ble_eq_true rfl⟩ dL_law_772 ⟨Nat.le_of_ble_eq_true rfl, Nat.le_of_ble_eq_true rfl⟩ (fun r_7 w1 H locs hw_8 hP hD hS => ?_)
    have hP := pSub hP (ws' := [(m0, .inr (12, [.int 0, .ref m0a1, .int 0, .long 0, .int 0, .ref m0a5, .ref m0a6, .ref m0a7, .ref m0a8, .ref m0a9, .int 0, .ref m0a11, .ref m0a12, .ref m0a13, .ref m0a14, .ref m0a15, .ref m0a16, .int 0, .ref m0a18, .ref m0a19, .ref m0a20, .ref m0a21, .ref m0a22, .int 0, .ref m0a24, .ref m0a25, .ref m0a26, .int 0, .ref m0a28, .ref m0a29, .ref m0a30, .ref m0a31, .int 0, .ref m0a33, .ref m0a34, .ref m0a35, .ref m0a36, .ref m0a37, .ref m0a38, .ref m0a39, .ref m0a40, .ref m0a41, .ref m0a42, .ref m0a43, .ref m0a44, .ref m0a45, .ref m0a46, .ref m0a47, .int 0, .ref m0a49, .ref m0a50, .ref m0a51, .int 0, .ref m0a53, .ref m0a54, .ref m0a55, .ref m0a56, .ref m0a57, .ref m0a58, .ref m0a59, .ref m0a60, .ref m0a61, .ref m0a62, .ref m0a63, .long 0, .int 0, .int (-9), .ref m0a67, .ref m0a68, .ref m0a69, .ref m0a70, .ref m0a71, .ref m0a72, .ref m0a73, .ref m0a74, .ref m0a75, .long 0])), (m0a28, .inl (cI g, 40, .inl (fun _ => 0))), (m0a29, .inl (cI g, 40, .inl (fun _ => 0))), (m0a30, .inl (cZ g, 40, .inl (fun _ => 0))), (m0a31, .inl (cI g, 40, .inl (fun _ => 0)))]) [0, 1, 2, 3, 4] rfl
    have hD := hD.sub (ws' := [(m0, .inr (12, [.int 0, .ref m0a1, .int 0, .long 0, .int 0, .ref m0a5, .ref m0a6, .ref m0a7, .ref m0a8, .ref m0a9, .int 0, .ref m0a11, .ref m0a12, .ref m0a13, .ref m0a14, .ref m0a15, .ref m0a16, .int 0, .ref m0a18, .ref m0a19, .ref m0a20, .ref m0a21, .ref m0a22, .int 0, .ref m0a24, .ref m0a25, .ref m0a26, .int 0, .ref m0a28, .ref m0a29, .ref m0a30, .ref m0a31, .int 0, .ref m0a33, .ref m0a34, .ref m0a35, .ref m0a36, .ref m0a37, .ref m0a38, .ref m0a39, .ref m0a40, .ref m0a41, .ref m0a42, .ref m0a43, .ref m0a44, .ref m0a45, .ref m0a46, .ref m0a47, .int 0, .ref m0a49, .ref m0a50, .ref m0a51, .int 0, .ref m0a53, .ref m0a54, .ref m0a55, .ref m0a56, .ref m0a57, .ref m0a58, .ref m0a59, .ref m0a60, .ref m0a61, .ref m0a62, .ref m0a63, .long 0, .int 0, .int (-9), .ref m0a67, .ref m0a68, .ref m0a69, .ref m0a70, .ref m0a71, .ref m0a72, .ref m0a73, .ref m0a74, .ref m0a75, .long 0])), (m0a28, .inl (cI g, 40, .inl (fun _ => 0))), (m0a29, .inl (cI g, 40, .inl (fun _ => 0))), (m0a30, .inl (cZ g, 40, .inl (fun _ => 0))), (m0a31, .inl (cI g, 40, .inl (fun _ => 0)))]) [0, 1, 2, 3, 4] rfl rfl
    refine lv_aload_n hx hb dL_law_775 rfl (lv_at hl 1 rfl) ?_
    refine lv_aload_n hx hb dL_law_776 rfl (lv_at hl 3 rfl) ?_
    refine lv_iload_n hx hb dL_law_777 rfl (lv_at hl 0 rfl) ?_
    refine lv_iconst (v := 1) hx hb dL_law_778 (by decide) ?_
    refine lv_iadd hx hb dL_law_779 ?_
    refine lv_topk (v := 1) (by decide) ?_
    refine va_sld hx hb hX hbl hbA hS (by unfold vp_in; decide) dL_law_780 ?_
    refine lv_topk (v := scr 1) rfl ?_
    refine lv_aload_n hx hb dL_law_781 rfl (lv_at hl 3 rfl) ?_
    refine lv_iload_n hx hb dL_law_782 rfl (lv_at hl 0 rfl) ?_
    refine lv_iconst (v := 2) hx hb dL_law_783 (by decide) ?_
    refine lv_iadd hx hb dL_law_784 ?_
    refine lv_topk (v := 2) (by decide) ?_
    refine va_sld hx hb hX hbl hbA hS (by unfold vp_in; decide) dL_law_785 ?_
    refine lv_topk (v := scr 2) rfl ?_
    refine lv_aload_n hx hb dL_law_786 rfl (lv_at hl 3 rfl) ?_
    refine lv_iload_n hx hb dL_law_787 rfl (lv_at hl 0 rfl) ?_
    refine lv_iconst (v := 3) hx hb dL_law_788 (by decide) ?_
    refine lv_iadd hx hb dL_law_789 ?_
    refine lv_topk (v := 3) (by decide) ?_
    refine va_sld hx hb hX hbl hbA hS (by unfold vp_in; decide) dL_law_790 ?_
    refine lv_topk (v := scr 3) rfl ?_
    refine lv_if_eq (tgt := 798) hx hb dL_law_791 (by decide) (fun c_9 => (by simp only [i32lt, i32le, i32eq, Int32.reduceToInt] at c_1 c_9; omega : False).elim) (fun _ => ?_)
    refine lv_iconst (v := 1) hx hb dL_law_794 (by decide) ?_
    refine lv_goto (tgt := 799) hx hb dL_law_795 (by decide) ?_
    refine lv_aload_n hx hb dL_law_799 rfl (lv_at hl 3 rfl) ?_
    refine lv_iload_n hx hb dL_law_800 rfl (lv_at hl 0 rfl) ?_
    refine lv_iconst (v := 4) hx hb dL_law_801 (by decide) ?_
    refine lv_iadd hx hb dL_law_802 ?_
    refine lv_topk (v := 4) (by decide) ?_
    refine va_sld hx hb hX hbl hbA hS (by unfold vp_in; decide) dL_law_803 ?_
    refine lv_topk (v := scr 4) rfl ?_
    refine kVi (As := [.int (scr 1), .int (scr 2), .int 1, .int (scr 4)]) (rest := [.int r_7]) (wr := []) X (c_X12_person l g m0 (scr 1) (scr 2) 1 (scr 4) m0a1 m0a5 m0a6 m0a7 m0a8 m0a9 m0a11 m0a12 m0a13 m0a14 m0a15 m0a16 m0a18 m0a19 m0a20 m0a21 m0a22 m0a24 m0a25 m0a26 m0a28 m0a29 m0a30 m0a31 m0a33 m0a34 m0a35 m0a36 m0a37 m0a38 m0a39 m0a40 m0a41 m0a42 m0a43 m0a44 m0a45 m0a46 m0a47 m0a49 m0a50 m0a51 m0a53 m0a54 m0a55 m0a56 m0a57 m0a58 m0a59 m0a60 m0a61 m0a62 m0a63 m0a67 m0a68 m0a69 m0a70 m0a71 m0a72 m0a73 m0a74 m0a75) ok_X12_person okv_X12_person q_1839 rfl hK hP hD hS hA hZ hl.1 [0, 1, 2, 3, 4] [] rfl rfl rfl rfl rfl 0 12 rfl rfl rfl (Nat.le_of_ble_eq_true rfl) ⟨Nat.le_of_ble_eq_true rfl, Nat.le_of_ble_eq_true rfl⟩ dL_law_804 ⟨Nat.le_of_ble_eq_true rfl, Nat.le_of_ble_eq_true rfl⟩ (fun r_10 w1 H locs hw_11 hP hD hS => ?_)
    have hP := pSub hP (ws' := []) [] rfl
    have hD := hD.sub (ws' := []) [] rfl rfl
    refine lv_icmp_eq (tgt := 1955) hx hb dL_law_807 (by decide) (fun _ => ?_) (fun c => absurd (hw_8.trans ((eq_person g x0 (scr 1) (scr 2) 1 (scr 4) xr xt xg xb xp xu xm xd xw xh xa xs xf xba0 xba1 xba2 xba3 xba4 xba5 xba6 xba7 xba8 xba9 xba10 xba11 xpa0 xpa1 xpa2 xpa3 m0 m0a1 m0a5 m0a6 m0a7 m0a8 m0a9 m0a11 m0a12 m0a13 m0a14 m0a15 m0a16 m0a18 m0a19 m0a20 m0a21 m0a22 m0a24 m0a25 m0a26 m0a28 m0a29 m0a30 m0a31 m0a33 m0a34 m0a35 m0a36 m0a37 m0a38 m0a39 m0a40 m0a41 m0a42 m0a43 m0a44 m0a45 m0a46 m0a47 m0a49 m0a50 m0a51 m0a53 m0a54 m0a55 m0a56 m0a57 m0a58 m0a59 m0a60 m0a61 m0a62 m0a63 m0a67 m0a68 m0a69 m0a70 m0a71 m0a72 m0a73 m0a74 m0a75).trans hw_11.symm)) c)
    exact kend _ _ _ hS (lv_sub hl [3, 0] rfl)
set_option maxHeartbeats 4000000 in
set_option maxRecDepth 100000 in
theorem law_14 (l : Launch) (g : GG) {p : Program} {e : Env} {s : State} {m : MethodId} {below : List Frame} {meth : Method} {c : Code} {b : Nat} {scr : Nat → Int32} (X : En p s m #[Value.ref b] meth c cL_law 4 ret R_law meth.name) (hK : va_K g.1 classes (tyG g) s) (hA : ∀ q, s.heap.size ≤ q → laA s q) (hZ : stS g (laA s) s s.heap) (hX : va_X b 6 scr s s.heap) (hbl : b < s.heap.size) (hbA : ¬ laA s b) (x0 : Nat) (xr : Nat) (xt : Nat) (xg : Nat) (xb : Nat) (xp : Nat) (xu : Nat) (xm : Nat) (xd : Nat) (xw : Nat) (xh : Nat) (xa : Nat) (xs : Nat) (xf : Nat) (xpa0 : Nat) (xpa1 : Nat) (xpa2 : Nat) (xpa3 : Nat) (m0 : Nat) (m0a1 : Nat) (m0a5 : Nat) (m0a6 : Nat) (m0a7 : Nat) (m0a8 : Nat) (m0a9 : Nat) (m0a11 : Nat) (m0a12 : Nat) (m0a13 : Nat) (m0a14 : Nat) (m0a15 : Nat) (m0a16 : Nat) (m0a18 : Nat) (m0a19 : Nat) (m0a20 : Nat) (m0a21 : Nat) (m0a22 : Nat) (m0a24 : Nat) (m0a25 : Nat) (m0a26 : Nat) (m0a28 : Nat) (m0a29 : Nat) (m0a30 : Nat) (m0a31 : Nat) (m0a33 : Nat) (m0a34 : Nat) (m0a35 : Nat) (m0a36 : Nat) (m0a37 : Nat) (m0a38 : Nat) (m0a39 : Nat) (m0a40 : Nat) (m0a41 : Nat) (m0a42 : Nat) (m0a43 : Nat) (m0a44 : Nat) (m0a45 : Nat) (m0a46 : Nat) (m0a47 : Nat) (m0a49 : Nat) (m0a50 : Nat) (m0a51 : Nat) (m0a53 : Nat) (m0a54 : Nat) (m0a55 : Nat) (m0a56 : Nat) (m0a57 : Nat) (m0a58 : Nat) (m0a59 : Nat) (m0a60 : Nat) (m0a61 : Nat) (m0a62 : Nat) (m0a63 : Nat) (m0a67 : Nat) (m0a68 : Nat) (m0a69 : Nat) (m0a70 : Nat) (m0a71 : Nat) (m0a72 : Nat) (m0a73 : Nat) (m0a74 : Nat) (m0a75 : Nat) {H : Heap} {locs : List Loc} {ls : Array Slot} (hP : va_P g.1 classes [(x0, .inr (11, [.ref xr, .ref xt, .ref xg, .ref xb, .ref xp, .ref xu, .ref xm, .ref xd, .ref xw, .ref xh, .ref xa, .ref xs, .ref xf, .int 0, .int 0, .long 0, .long 0, .int 0])), (xp, .inr (5, [.ref xpa0, .ref xpa1, .ref xpa2, .ref xpa3, .int 0])), (m0, .inr (12, [.int 0, .ref m0a1, .int 0, .long 0, .int 0, .ref m0a5, .ref m0a6, .ref m0a7, .ref m0a8, .ref m0a9, .int 0, .ref m0a11, .ref m0a12, .ref m0a13, .ref m0a14, .ref m0a15, .ref m0a16, .int 0, .ref m0a18, .ref m0a19, .ref m0a20, .ref m0a21, .ref m0a22, .int 0, .ref m0a24, .ref m0a25, .ref m0a26, .int 0, .ref m0a28, .ref m0a29, .ref m0a30, .ref m0a31, .int 0, .ref m0a33, .ref m0a34, .ref m0a35, .ref m0a36, .ref m0a37, .ref m0a38, .ref m0a39, .ref m0a40, .ref m0a41, .ref m0a42, .ref m0a43, .ref m0a44, .ref m0a45, .ref m0a46, .ref m0a47, .int 0, .ref m0a49, .ref m0a50, .ref m0a51, .int 0, .ref m0a53, .ref m0a54, .ref m0a55, .ref m0a56, .ref m0a57, .ref m0a58, .ref m0a59, .ref m0a60, .ref m0a61, .ref m0a62, .ref m0a63, .long 0, .int 0, .int (-9), .ref m0a67, .ref m0a68, .ref m0a69, .ref m0a70, .ref m0a71, .ref m0a72, .ref m0a73, .ref m0a74, .ref m0a75, .long 0]))] H) (hD : va_D (laA s) [(x0, .inr (11, [.ref xr, .ref xt, .ref xg, .ref xb, .ref xp, .ref xu, .ref xm, .ref xd, .ref xw, .ref xh, .ref xa, .ref xs, .ref xf, .int 0, .int 0, .long 0, .long 0, .int 0])), (xp, .inr (5, [.ref xpa0, .ref xpa1, .ref xpa2, .ref xpa3, .int 0])), (m0, .inr (12, [.int 0, .ref m0a1, .int 0, .long 0, .int 0, .ref m0a5, .ref m0a6, .ref m0a7, .ref m0a8, .ref m0a9, .int 0, .ref m0a11, .ref m0a12, .ref m0a13, .ref m0a14, .ref m0a15, .ref m0a16, .int 0, .ref m0a18, .ref m0a19, .ref m0a20, .ref m0a21, .ref m0a22, .int 0, .ref m0a24, .ref m0a25, .ref m0a26, .int 0, .ref m0a28, .ref m0a29, .ref m0a30, .ref m0a31, .int 0, .ref m0a33, .ref m0a34, .ref m0a35, .ref m0a36, .ref m0a37, .ref m0a38, .ref m0a39, .ref m0a40, .ref m0a41, .ref m0a42, .ref m0a43, .ref m0a44, .ref m0a45, .ref m0a46, .ref m0a47, .int 0, .ref m0a49, .ref m0a50, .ref m0a51, .int 0, .ref m0a53, .ref m0a54, .ref m0a55, .ref m0a56, .ref m0a57, .ref m0a58, .ref m0a59, .ref m0a60, .ref m0a61, .ref m0a62, .ref m0a63, .long 0, .int 0, .int (-9), .ref m0a67, .ref m0a68, .ref m0a69, .ref m0a70, .ref m0a71, .ref m0a72, .ref m0a73, .ref m0a74, .ref m0a75, .long 0]))]) (hS : va_S (laA s) s.heap H locs) (hl : lv_has ls 4 [(3, .int 0), (2, .ref m0), (1, .ref x0), (0, .ref b)]) {Q : State → Prop} (kend : ∀ (H : Heap) (locs : List Loc) (ls : Array Slot), va_S (laA s) s.heap H locs → lv_has ls 4 [(0, .ref b), (3, .int 0)] → W p l e room_1 s m #[Value.ref b] below meth c H locs 141 11384 Q (F0 m 1955 ls [])) : W p l e room_1 s m #[Value.ref b] below meth c H locs 141 11384 Q (F0 m 812 ls []) := by
  have hx := X.1
  have hb := X.2.1
  have hml := X.2.2.1
  have hown := X.2.2.2.1
  have hts := X.2.2.2.2.1
  refine lv_aload_n hx hb dL_law_812 rfl (lv_at hl 2 rfl) ?_
  refine lv_aload_n hx hb dL_law_813 rfl (lv_at hl 3 rfl) ?_
  refine lv_iload_n hx hb dL_law_814 rfl (lv_at hl 0 rfl) ?_
  refine lv_iconst (v := 1) hx hb dL_law_815 (by decide) ?_
  refine lv_iadd hx hb dL_law_816 ?_
  refine lv_topk (v := 1) (by decide) ?_
  refine va_sld hx hb hX hbl hbA hS (by unfold vp_in; decide) dL_law_817 ?_
  refine lv_topk (v := scr 1) rfl ?_
  refine lv_aload_n hx hb dL_law_818 rfl (lv_at hl 3 rfl) ?_
  refine lv_iload_n hx hb dL_law_819 rfl (lv_at hl 0 rfl) ?_
  refine lv_iconst (v := 2) hx hb dL_law_820 (by decide) ?_
  refine lv_iadd hx hb dL_law_821 ?_
  refine lv_topk (v := 2) (by decide) ?_
  refine va_sld hx hb hX hbl hbA hS (by unfold vp_in; decide) dL_law_822 ?_
  refine lv_topk (v := scr 2) rfl ?_
  refine kVi (As := [.int (scr 1), .int (scr 2)]) (rest := []) (wr := [(m0, .inr (12, [.int 0, .ref m0a1, .int 0, .long 0, .int 0, .ref m0a5, .ref m0a6, .ref m0a7, .ref m0a8, .ref m0a9, .int 0, .ref m0a11, .ref m0a12, .ref m0a13, .ref m0a14, .ref m0a15, .ref m0a16, .int 0, .ref m0a18, .ref m0a19, .ref m0a20, .ref m0a21, .ref m0a22, .int 0, .ref m0a24, .ref m0a25, .ref m0a26, .int 0, .ref m0a28, .ref m0a29, .ref m0a30, .ref m0a31, .int 0, .ref m0a33, .ref m0a34, .ref m0a35, .ref m0a36, .ref m0a37, .ref m0a38, .ref m0a39, .ref m0a40, .ref m0a41, .ref m0a42, .ref m0a43, .ref m0a44, .ref m0a45, .ref m0a46, .ref m0a47, .int 0, .ref m0a49, .ref m0a50, .ref m0a51, .int 0, .ref m0a53, .ref m0a54, .ref m0a55, .ref m0a56, .ref m0a57, .ref m0a58, .ref m0a59, .ref m0a60, .ref m0a61, .ref m0a62, .ref m0a63, .long 0, .int 0, .int (-9), .ref m0a67, .ref m0a68, .ref m0a69, .ref m0a70, .ref m0a71, .ref m0a72, .ref m0a73, .ref m0a74, .ref m0a75, .long 0]))]) X (c_X11_who l g x0 (scr 1) (scr 2) xr xt xg xb xp xu xm xd xw xh xa xs xf xpa0 xpa1 xpa2 xpa3) ok_X11_who okv_X11_who q_731 rfl hK hP hD hS hA hZ hl.1 [0, 1] [2] rfl rfl rfl rfl rfl 0 11 rfl rfl rfl (Nat.le_of_ble_eq_true rfl) ⟨Nat.le_of_ble_eq_true rfl, Nat.le_of_ble_eq_true rfl⟩ dL_law_823 ⟨Nat.le_of_ble_eq_true rfl, Nat.le_of_ble_eq_true rfl⟩ (fun r_1 w1 H locs hw_2 hP hD hS => ?_)
  have hP := pSub hP (ws' := [(m0, .inr (12, [.int 0, .ref m0a1, .int 0, .long 0, .int 0, .ref m0a5, .ref m0a6, .ref m0a7, .ref m0a8, .ref m0a9, .int 0, .ref m0a11, .ref m0a12, .ref m0a13, .ref m0a14, .ref m0a15, .ref m0a16, .int 0, .ref m0a18, .ref m0a19, .ref m0a20, .ref m0a21, .ref m0a22, .int 0, .ref m0a24, .ref m0a25, .ref m0a26, .int 0, .ref m0a28, .ref m0a29, .ref m0a30, .ref m0a31, .int 0, .ref m0a33, .ref m0a34, .ref m0a35, .ref m0a36, .ref m0a37, .ref m0a38, .ref m0a39, .ref m0a40, .ref m0a41, .ref m0a42, .ref m0a43, .ref m0a44, .ref m0a45, .ref m0a46, .ref m0a47, .int 0, .ref m0a49, .ref m0a50, .ref m0a51, .int 0, .ref m0a53, .ref m0a54, .ref m0a55, .ref m0a56, .ref m0a57, .ref m0a58, .ref m0a59, .ref m0a60, .ref m0a61, .ref m0a62, .ref m0a63, .long 0, .int 0, .int (-9), .ref m0a67, .ref m0a68, .ref m0a69, .ref m0a70, .ref m0a71, .ref m0a72, .ref m0a73, .ref m0a74, .ref m0a75, .long 0]))]) [0] rfl
  have hD := hD.sub (ws' := [(m0, .inr (12, [.int 0, .ref m0a1, .int 0, .long 0, .int 0, .ref m0a5, .ref m0a6, .ref m0a7, .ref m0a8, .ref m0a9, .int 0, .ref m0a11, .ref m0a12, .ref m0a13, .ref m0a14, .ref m0a15, .ref m0a16, .int 0, .ref m0a18, .ref m0a19, .ref m0a20, .ref m0a21, .ref m0a22, .int 0, .ref m0a24, .ref m0a25, .ref m0a26, .int 0, .ref m0a28, .ref m0a29, .ref m0a30, .ref m0a31, .int 0, .ref m0a33, .ref m0a34, .ref m0a35, .ref m0a36, .ref m0a37, .ref m0a38, .ref m0a39, .ref m0a40, .ref m0a41, .ref m0a42, .ref m0a43, .ref m0a44, .ref m0a45, .ref m0a46, .ref m0a47, .int 0, .ref m0a49, .ref m0a50, .ref m0a51, .int 0, .ref m0a53, .ref m0a54, .ref m0a55, .ref m0a56, .ref m0a57, .ref m0a58, .ref m0a59, .ref m0a60, .ref m0a61, .ref m0a62, .ref m0a63, .long 0, .int 0, .int (-9), .ref m0a67, .ref m0a68, .ref m0a69, .ref m0a70, .ref m0a71, .ref m0a72, .ref m0a73, .ref m0a74, .ref m0a75, .long 0]))]) [0] rfl rfl
  refine lv_aload_n hx hb dL_law_826 rfl (lv_at hl 1 rfl) ?_
  refine lv_aload_n hx hb dL_law_827 rfl (lv_at hl 3 rfl) ?_
  refine lv_iload_n hx hb dL_law_828 rfl (lv_at hl 0 rfl) ?_
  refine lv_iconst (v := 1) hx hb dL_law_829 (by decide) ?_
  refine lv_iadd hx hb dL_law_830 ?_
  refine lv_topk (v := 1) (by decide) ?_
  refine va_sld hx hb hX hbl hbA hS (by unfold vp_in; decide) dL_law_831 ?_
  refine lv_topk (v := scr 1) rfl ?_
  refine lv_aload_n hx hb dL_law_832 rfl (lv_at hl 3 rfl) ?_
  refine lv_iload_n hx hb dL_law_833 rfl (lv_at hl 0 rfl) ?_
  refine lv_iconst (v := 2) hx hb dL_law_834 (by decide) ?_
  refine lv_iadd hx hb dL_law_835 ?_
  refine lv_topk (v := 2) (by decide) ?_
  refine va_sld hx hb hX hbl hbA hS (by unfold vp_in; decide) dL_law_836 ?_
  refine lv_topk (v := scr 2) rfl ?_
  refine kVi (As := [.int (scr 1), .int (scr 2)]) (rest := [.int r_1]) (wr := []) X (c_X12_who l g m0 (scr 1) (scr 2) m0a1 m0a5 m0a6 m0a7 m0a8 m0a9 m0a11 m0a12 m0a13 m0a14 m0a15 m0a16 m0a18 m0a19 m0a20 m0a21 m0a22 m0a24 m0a25 m0a26 m0a28 m0a29 m0a30 m0a31 m0a33 m0a34 m0a35 m0a36 m0a37 m0a38 m0a39 m0a40 m0a41 m0a42 m0a43 m0a44 m0a45 m0a46 m0a47 m0a49 m0a50 m0a51 m0a53 m0a54 m0a55 m0a56 m0a57 m0a58 m0a59 m0a60 m0a61 m0a62 m0a63 m0a67 m0a68 m0a69 m0a70 m0a71 m0a72 m0a73 m0a74 m0a75) ok_X12_who okv_X12_who q_1847 rfl hK hP hD hS hA hZ hl.1 [0] [] rfl rfl rfl rfl rfl 0 12 rfl rfl rfl (Nat.le_of_ble_eq_true rfl) ⟨Nat.le_of_ble_eq_true rfl, Nat.le_of_ble_eq_true rfl⟩ dL_law_837 ⟨Nat.le_of_ble_eq_true rfl, Nat.le_of_ble_eq_true rfl⟩ (fun r_3 w1 H locs hw_4 hP hD hS => ?_)
  have hP := pSub hP (ws' := []) [] rfl
  have hD := hD.sub (ws' := []) [] rfl rfl
  refine lv_icmp_eq (tgt := 1955) hx hb dL_law_840 (by decide) (fun _ => ?_) (fun c => absurd (hw_2.trans ((eq_who g x0 (scr 1) (scr 2) xr xt xg xb xp xu xm xd xw xh xa xs xf xpa0 xpa1 xpa2 xpa3 m0 m0a1 m0a5 m0a6 m0a7 m0a8 m0a9 m0a11 m0a12 m0a13 m0a14 m0a15 m0a16 m0a18 m0a19 m0a20 m0a21 m0a22 m0a24 m0a25 m0a26 m0a28 m0a29 m0a30 m0a31 m0a33 m0a34 m0a35 m0a36 m0a37 m0a38 m0a39 m0a40 m0a41 m0a42 m0a43 m0a44 m0a45 m0a46 m0a47 m0a49 m0a50 m0a51 m0a53 m0a54 m0a55 m0a56 m0a57 m0a58 m0a59 m0a60 m0a61 m0a62 m0a63 m0a67 m0a68 m0a69 m0a70 m0a71 m0a72 m0a73 m0a74 m0a75).trans hw_4.symm)) c)
  exact kend _ _ _ hS (lv_sub hl [3, 0] rfl)
set_option maxHeartbeats 4000000 in
set_option maxRecDepth 100000 in
theorem law_15 (l : Launch) (g : GG) {p : Program} {e : Env} {s : State} {m : MethodId} {below : List Frame} {meth : Method} {c : Code} {b : Nat} {scr : Nat → Int32} (X : En p s m #[Value.ref b] meth c cL_law 4 ret R_law meth.name) (hK : va_K g.1 classes (tyG g) s) (hA : ∀ q, s.heap.size ≤ q → laA s q) (hZ : stS g (laA s) s s.heap) (hX : va_X b 6 scr s s.heap) (hbl : b < s.heap.size) (hbA : ¬ laA s b) (x0 : Nat) (xr : Nat) (xt : Nat) (xg : Nat) (xb : Nat) (xp : Nat) (xu : Nat) (xm : Nat) (xd : Nat) (xw : Nat) (xh : Nat) (xa : Nat) (xs : Nat) (xf : Nat) (xba0 : Nat) (xba1 : Nat) (xba2 : Nat) (xba3 : Nat) (xba4 : Nat) (xba5 : Nat) (xba6 : Nat) (xba7 : Nat) (xba8 : Nat) (xba9 : Nat) (xba10 : Nat) (xba11 : Nat) (m0 : Nat) (m0a1 : Nat) (m0a5 : Nat) (m0a6 : Nat) (m0a7 : Nat) (m0a8 : Nat) (m0a9 : Nat) (m0a11 : Nat) (m0a12 : Nat) (m0a13 : Nat) (m0a14 : Nat) (m0a15 : Nat) (m0a16 : Nat) (m0a18 : Nat) (m0a19 : Nat) (m0a20 : Nat) (m0a21 : Nat) (m0a22 : Nat) (m0a24 : Nat) (m0a25 : Nat) (m0a26 : Nat) (m0a28 : Nat) (m0a29 : Nat) (m0a30 : Nat) (m0a31 : Nat) (m0a33 : Nat) (m0a34 : Nat) (m0a35 : Nat) (m0a36 : Nat) (m0a37 : Nat) (m0a38 : Nat) (m0a39 : Nat) (m0a40 : Nat) (m0a41 : Nat) (m0a42 : Nat) (m0a43 : Nat) (m0a44 : Nat) (m0a45 : Nat) (m0a46 : Nat) (m0a47 : Nat) (m0a49 : Nat) (m0a50 : Nat) (m0a51 : Nat) (m0a53 : Nat) (m0a54 : Nat) (m0a55 : Nat) (m0a56 : Nat) (m0a57 : Nat) (m0a58 : Nat) (m0a59 : Nat) (m0a60 : Nat) (m0a61 : Nat) (m0a62 : Nat) (m0a63 : Nat) (m0a67 : Nat) (m0a68 : Nat) (m0a69 : Nat) (m0a70 : Nat) (m0a71 : Nat) (m0a72 : Nat) (m0a73 : Nat) (m0a74 : Nat) (m0a75 : Nat) {H : Heap} {locs : List Loc} {ls : Array Slot} (hP : va_P g.1 classes [(x0, .inr (11, [.ref xr, .ref xt, .ref xg, .ref xb, .ref xp, .ref xu, .ref xm, .ref xd, .ref xw, .ref xh, .ref xa, .ref xs, .ref xf, .int 0, .int 0, .long 0, .long 0, .int 0])), (xb, .inr (1, [.ref xba0, .ref xba1, .ref xba2, .ref xba3, .ref xba4, .ref xba5, .ref xba6, .ref xba7, .ref xba8, .ref xba9, .ref xba10, .ref xba11, .int 0, .int 0])), (xf, .inl (cI g, 6, .inl (fun _ => 0))), (m0, .inr (12, [.int 0, .ref m0a1, .int 0, .long 0, .int 0, .ref m0a5, .ref m0a6, .ref m0a7, .ref m0a8, .ref m0a9, .int 0, .ref m0a11, .ref m0a12, .ref m0a13, .ref m0a14, .ref m0a15, .ref m0a16, .int 0, .ref m0a18, .ref m0a19, .ref m0a20, .ref m0a21, .ref m0a22, .int 0, .ref m0a24, .ref m0a25, .ref m0a26, .int 0, .ref m0a28, .ref m0a29, .ref m0a30, .ref m0a31, .int 0, .ref m0a33, .ref m0a34, .ref m0a35, .ref m0a36, .ref m0a37, .ref m0a38, .ref m0a39, .ref m0a40, .ref m0a41, .ref m0a42, .ref m0a43, .ref m0a44, .ref m0a45, .ref m0a46, .ref m0a47, .int 0, .ref m0a49, .ref m0a50, .ref m0a51, .int 0, .ref m0a53, .ref m0a54, .ref m0a55, .ref m0a56, .ref m0a57, .ref m0a58, .ref m0a59, .ref m0a60, .ref m0a61, .ref m0a62, .ref m0a63, .long 0, .int 0, .int (-9), .ref m0a67, .ref m0a68, .ref m0a69, .ref m0a70, .ref m0a71, .ref m0a72, .ref m0a73, .ref m0a74, .ref m0a75, .long 0])), (m0a1, .inl (cI g, 6, .inl (fun _ => 0)))] H) (hD : va_D (laA s) [(x0, .inr (11, [.ref xr, .ref xt, .ref xg, .ref xb, .ref xp, .ref xu, .ref xm, .ref xd, .ref xw, .ref xh, .ref xa, .ref xs, .ref xf, .int 0, .int 0, .long 0, .long 0, .int 0])), (xb, .inr (1, [.ref xba0, .ref xba1, .ref xba2, .ref xba3, .ref xba4, .ref xba5, .ref xba6, .ref xba7, .ref xba8, .ref xba9, .ref xba10, .ref xba11, .int 0, .int 0])), (xf, .inl (cI g, 6, .inl (fun _ => 0))), (m0, .inr (12, [.int 0, .ref m0a1, .int 0, .long 0, .int 0, .ref m0a5, .ref m0a6, .ref m0a7, .ref m0a8, .ref m0a9, .int 0, .ref m0a11, .ref m0a12, .ref m0a13, .ref m0a14, .ref m0a15, .ref m0a16, .int 0, .ref m0a18, .ref m0a19, .ref m0a20, .ref m0a21, .ref m0a22, .int 0, .ref m0a24, .ref m0a25, .ref m0a26, .int 0, .ref m0a28, .ref m0a29, .ref m0a30, .ref m0a31, .int 0, .ref m0a33, .ref m0a34, .ref m0a35, .ref m0a36, .ref m0a37, .ref m0a38, .ref m0a39, .ref m0a40, .ref m0a41, .ref m0a42, .ref m0a43, .ref m0a44, .ref m0a45, .ref m0a46, .ref m0a47, .int 0, .ref m0a49, .ref m0a50, .ref m0a51, .int 0, .ref m0a53, .ref m0a54, .ref m0a55, .ref m0a56, .ref m0a57, .ref m0a58, .ref m0a59, .ref m0a60, .ref m0a61, .ref m0a62, .ref m0a63, .long 0, .int 0, .int (-9), .ref m0a67, .ref m0a68, .ref m0a69, .ref m0a70, .ref m0a71, .ref m0a72, .ref m0a73, .ref m0a74, .ref m0a75, .long 0])), (m0a1, .inl (cI g, 6, .inl (fun _ => 0)))]) (hS : va_S (laA s) s.heap H locs) (hl : lv_has ls 4 [(3, .int 0), (2, .ref m0), (1, .ref x0), (0, .ref b)]) {Q : State → Prop} (kend : ∀ (H : Heap) (locs : List Loc) (ls : Array Slot), va_S (laA s) s.heap H locs → lv_has ls 4 [(0, .ref b), (3, .int 0)] → W p l e room_1 s m #[Value.ref b] below meth c H locs 141 11384 Q (F0 m 1955 ls [])) : W p l e room_1 s m #[Value.ref b] below meth c H locs 141 11384 Q (F0 m 845 ls []) := by
  have hx := X.1
  have hb := X.2.1
  have hml := X.2.2.1
  have hown := X.2.2.2.1
  have hts := X.2.2.2.2.1
  refine lv_aload_n hx hb dL_law_845 rfl (lv_at hl 2 rfl) ?_
  refine lv_aload_n hx hb dL_law_846 rfl (lv_at hl 3 rfl) ?_
  refine lv_iload_n hx hb dL_law_847 rfl (lv_at hl 0 rfl) ?_
  refine lv_iconst (v := 1) hx hb dL_law_848 (by decide) ?_
  refine lv_iadd hx hb dL_law_849 ?_
  refine lv_topk (v := 1) (by decide) ?_
  refine va_sld hx hb hX hbl hbA hS (by unfold vp_in; decide) dL_law_850 ?_
  refine lv_topk (v := scr 1) rfl ?_
  refine kVi (As := [.int (scr 1)]) (rest := []) (wr := [(m0, .inr (12, [.int 0, .ref m0a1, .int 0, .long 0, .int 0, .ref m0a5, .ref m0a6, .ref m0a7, .ref m0a8, .ref m0a9, .int 0, .ref m0a11, .ref m0a12, .ref m0a13, .ref m0a14, .ref m0a15, .ref m0a16, .int 0, .ref m0a18, .ref m0a19, .ref m0a20, .ref m0a21, .ref m0a22, .int 0, .ref m0a24, .ref m0a25, .ref m0a26, .int 0, .ref m0a28, .ref m0a29, .ref m0a30, .ref m0a31, .int 0, .ref m0a33, .ref m0a34, .ref m0a35, .ref m0a36, .ref m0a37, .ref m0a38, .ref m0a39, .ref m0a40, .ref m0a41, .ref m0a42, .ref m0a43, .ref m0a44, .ref m0a45, .ref m0a46, .ref m0a47, .int 0, .ref m0a49, .ref m0a50, .ref m0a51, .int 0, .ref m0a53, .ref m0a54, .ref m0a55, .ref m0a56, .ref m0a57, .ref m0a58, .ref m0a59, .ref m0a60, .ref m0a61, .ref m0a62, .ref m0a63, .long 0, .int 0, .int (-9), .ref m0a67, .ref m0a68, .ref m0a69, .ref m0a70, .ref m0a71, .ref m0a72, .ref m0a73, .ref m0a74, .ref m0a75, .long 0])), (m0a1, .inl (cI g, 6, .inl (fun _ => 0)))]) X (c_X11_mean l g x0 (scr 1) xr xt xg xb xp xu xm xd xw xh xa xs xf xba0 xba1 xba2 xba3 xba4 xba5 xba6 xba7 xba8 xba9 xba10 xba11) ok_X11_mean okv_X11_mean q_743 rfl hK hP hD hS hA hZ hl.1 [0, 1, 2] [3, 4] rfl rfl rfl rfl rfl 0 11 rfl rfl rfl (Nat.le_of_ble_eq_true rfl) ⟨Nat.le_of_ble_eq_true rfl, Nat.le_of_ble_eq_true rfl⟩ dL_law_851 ⟨Nat.le_of_ble_eq_true rfl, Nat.le_of_ble_eq_true rfl⟩ (fun r_1 w1 H locs hw_2 hP hD hS => ?_)
  have hP := pSub hP (ws' := [(m0, .inr (12, [.int 0, .ref m0a1, .int 0, .long 0, .int 0, .ref m0a5, .ref m0a6, .ref m0a7, .ref m0a8, .ref m0a9, .int 0, .ref m0a11, .ref m0a12, .ref m0a13, .ref m0a14, .ref m0a15, .ref m0a16, .int 0, .ref m0a18, .ref m0a19, .ref m0a20, .ref m0a21, .ref m0a22, .int 0, .ref m0a24, .ref m0a25, .ref m0a26, .int 0, .ref m0a28, .ref m0a29, .ref m0a30, .ref m0a31, .int 0, .ref m0a33, .ref m0a34, .ref m0a35, .ref m0a36, .ref m0a37, .ref m0a38, .ref m0a39, .ref m0a40, .ref m0a41, .ref m0a42, .ref m0a43, .ref m0a44, .ref m0a45, .ref m0a46, .ref m0a47, .int 0, .ref m0a49, .ref m0a50, .ref m0a51, .int 0, .ref m0a53, .ref m0a54, .ref m0a55, .ref m0a56, .ref m0a57, .ref m0a58, .ref m0a59, .ref m0a60, .ref m0a61, .ref m0a62, .ref m0a63, .long 0, .int 0, .int (-9), .ref m0a67, .ref m0a68, .ref m0a69, .ref m0a70, .ref m0a71, .ref m0a72, .ref m0a73, .ref m0a74, .ref m0a75, .long 0])), (m0a1, .inl (cI g, 6, .inl (fun _ => 0)))]) [0, 1] rfl
  have hD := hD.sub (ws' := [(m0, .inr (12, [.int 0, .ref m0a1, .int 0, .long 0, .int 0, .ref m0a5, .ref m0a6, .ref m0a7, .ref m0a8, .ref m0a9, .int 0, .ref m0a11, .ref m0a12, .ref m0a13, .ref m0a14, .ref m0a15, .ref m0a16, .int 0, .ref m0a18, .ref m0a19, .ref m0a20, .ref m0a21, .ref m0a22, .int 0, .ref m0a24, .ref m0a25, .ref m0a26, .int 0, .ref m0a28, .ref m0a29, .ref m0a30, .ref m0a31, .int 0, .ref m0a33, .ref m0a34, .ref m0a35, .ref m0a36, .ref m0a37, .ref m0a38, .ref m0a39, .ref m0a40, .ref m0a41, .ref m0a42, .ref m0a43, .ref m0a44, .ref m0a45, .ref m0a46, .ref m0a47, .int 0, .ref m0a49, .ref m0a50, .ref m0a51, .int 0, .ref m0a53, .ref m0a54, .ref m0a55, .ref m0a56, .ref m0a57, .ref m0a58, .ref m0a59, .ref m0a60, .ref m0a61, .ref m0a62, .ref m0a63, .long 0, .int 0, .int (-9), .ref m0a67, .ref m0a68, .ref m0a69, .ref m0a70, .ref m0a71, .ref m0a72, .ref m0a73, .ref m0a74, .ref m0a75, .long 0])), (m0a1, .inl (cI g, 6, .inl (fun _ => 0)))]) [0, 1] rfl rfl
  refine lv_aload_n hx hb dL_law_854 rfl (lv_at hl 1 rfl) ?_
  refine lv_aload_n hx hb dL_law_855 rfl (lv_at hl 3 rfl) ?_
  refine lv_iload_n hx hb dL_law_856 rfl (lv_at hl 0 rfl) ?_
  refine lv_iconst (v := 1) hx hb dL_law_857 (by decide) ?_
  refine lv_iadd hx hb dL_law_858 ?_
  refine lv_topk (v := 1) (by decide) ?_
  refine va_sld hx hb hX hbl hbA hS (by unfold vp_in; decide) dL_law_859 ?_
  refine lv_topk (v := scr 1) rfl ?_
  refine kVi (As := [.int (scr 1)]) (rest := [.int r_1]) (wr := []) X (c_X12_mean l g m0 (scr 1) m0a1 m0a5 m0a6 m0a7 m0a8 m0a9 m0a11 m0a12 m0a13 m0a14 m0a15 m0a16 m0a18 m0a19 m0a20 m0a21 m0a22 m0a24 m0a25 m0a26 m0a28 m0a29 m0a30 m0a31 m0a33 m0a34 m0a35 m0a36 m0a37 m0a38 m0a39 m0a40 m0a41 m0a42 m0a43 m0a44 m0a45 m0a46 m0a47 m0a49 m0a50 m0a51 m0a53 m0a54 m0a55 m0a56 m0a57 m0a58 m0a59 m0a60 m0a61 m0a62 m0a63 m0a67 m0a68 m0a69 m0a70 m0a71 m0a72 m0a73 m0a74 m0a75) ok_X12_mean okv_X12_mean q_1859 rfl hK hP hD hS hA hZ hl.1 [0, 1] [] rfl rfl rfl rfl rfl 0 12 rfl rfl rfl (Nat.le_of_ble_eq_true rfl) ⟨Nat.le_of_ble_eq_true rfl, Nat.le_of_ble_eq_true rfl⟩ dL_law_860 ⟨Nat.le_of_ble_eq_true rfl, Nat.le_of_ble_eq_true rfl⟩ (fun r_3 w1 H locs hw_4 hP hD hS => ?_)
  have hP := pSub hP (ws' := []) [] rfl
  have hD := hD.sub (ws' := []) [] rfl rfl
  refine lv_icmp_eq (tgt := 1955) hx hb dL_law_863 (by decide) (fun _ => ?_) (fun c => absurd (hw_2.trans ((eq_mean g x0 (scr 1) xr xt xg xb xp xu xm xd xw xh xa xs xf xba0 xba1 xba2 xba3 xba4 xba5 xba6 xba7 xba8 xba9 xba10 xba11 m0 m0a1 m0a5 m0a6 m0a7 m0a8 m0a9 m0a11 m0a12 m0a13 m0a14 m0a15 m0a16 m0a18 m0a19 m0a20 m0a21 m0a22 m0a24 m0a25 m0a26 m0a28 m0a29 m0a30 m0a31 m0a33 m0a34 m0a35 m0a36 m0a37 m0a38 m0a39 m0a40 m0a41 m0a42 m0a43 m0a44 m0a45 m0a46 m0a47 m0a49 m0a50 m0a51 m0a53 m0a54 m0a55 m0a56 m0a57 m0a58 m0a59 m0a60 m0a61 m0a62 m0a63 m0a67 m0a68 m0a69 m0a70 m0a71 m0a72 m0a73 m0a74 m0a75).trans hw_4.symm)) c)
  exact kend _ _ _ hS (lv_sub hl [3, 0] rfl)
set_option maxHeartbeats 4000000 in
set_option maxRecDepth 100000 in
theorem law_16 (l : Launch) (g : GG) {p : Program} {e : Env} {s : State} {m : MethodId} {below : List Frame} {meth : Method} {c : Code} {b : Nat} {scr : Nat → Int32} (X : En p s m #[Value.ref b] meth c cL_law 4 ret R_law meth.name) (hK : va_K g.1 classes (tyG g) s) (hA : ∀ q, s.heap.size ≤ q → laA s q) (hZ : stS g (laA s) s s.heap) (hX : va_X b 6 scr s s.heap) (hbl : b < s.heap.size) (hbA : ¬ laA s b) (x0 : Nat) (xr : Nat) (xt : Nat) (xg : Nat) (xb : Nat) (xp : Nat) (xu : Nat) (xm : Nat) (xd : Nat) (xw : Nat) (xh : Nat) (xa : Nat) (xs : Nat) (xf : Nat) (xts : Nat) (xtp : Nat) (xua0 : Nat) (xua1 : Nat) (xua2 : Nat) (m0 : Nat) (m0a1 : Nat) (m0a5 : Nat) (m0a6 : Nat) (m0a7 : Nat) (m0a8 : Nat) (m0a9 : Nat) (m0a11 : Nat) (m0a12 : Nat) (m0a13 : Nat) (m0a14 : Nat) (m0a15 : Nat) (m0a16 : Nat) (m0a18 : Nat) (m0a19 : Nat) (m0a20 : Nat) (m0a21 : Nat) (m0a22 : Nat) (m0a24 : Nat) (m0a25 : Nat) (m0a26 : Nat) (m0a28 : Nat) (m0a29 : Nat) (m0a30 : Nat) (m0a31 : Nat) (m0a33 : Nat) (m0a34 : Nat) (m0a35 : Nat) (m0a36 : Nat) (m0a37 : Nat) (m0a38 : Nat) (m0a39 : Nat) (m0a40 : Nat) (m0a41 : Nat) (m0a42 : Nat) (m0a43 : Nat) (m0a44 : Nat) (m0a45 : Nat) (m0a46 : Nat) (m0a47 : Nat) (m0a49 : Nat) (m0a50 : Nat) (m0a51 : Nat) (m0a53 : Nat) (m0a54 : Nat) (m0a55 : Nat) (m0a56 : Nat) (m0a57 : Nat) (m0a58 : Nat) (m0a59 : Nat) (m0a60 : Nat) (m0a61 : Nat) (m0a62 : Nat) (m0a63 : Nat) (m0a67 : Nat) (m0a68 : Nat) (m0a69 : Nat) (m0a70 : Nat) (m0a71 : Nat) (m0a72 : Nat) (m0a73 : Nat) (m0a74 : Nat) (m0a75 : Nat) {H : Heap} {locs : List Loc} {ls : Array Slot} (hP : va_P g.1 classes [(x0, .inr (11, [.ref xr, .ref xt, .ref xg, .ref xb, .ref xp, .ref xu, .ref xm, .ref xd, .ref xw, .ref xh, .ref xa, .ref xs, .ref xf, .int 0, .int 0, .long 0, .long 0, .int 0])), (xt, .inr (8, [.int 4, .int 32, .ref xts, .ref xtp])), (xts, .inl (cI g, 6, .inl (fun _ => (-1)))), (xu, .inr (7, [.ref xua0, .ref xua1, .ref xua2, .int 0])), (xf, .inl (cI g, 6, .inl (fun _ => 0))), (m0, .inr (12, [.int 0, .ref m0a1, .int 0, .long 0, .int 0, .ref m0a5, .ref m0a6, .ref m0a7, .ref m0a8, .ref m0a9, .int 0, .ref m0a11, .ref m0a12, .ref m0a13, .ref m0a14, .ref m0a15, .ref m0a16, .int 0, .ref m0a18, .ref m0a19, .ref m0a20, .ref m0a21, .ref m0a22, .int 0, .ref m0a24, .ref m0a25, .ref m0a26, .int 0, .ref m0a28, .ref m0a29, .ref m0a30, .ref m0a31, .int 0, .ref m0a33, .ref m0a34, .ref m0a35, .ref m0a36, .ref m0a37, .ref m0a38, .ref m0a39, .ref m0a40, .ref m0a41, .ref m0a42, .ref m0a43, .ref m0a44, .ref m0a45, .ref m0a46, .ref m0a47, .int 0, .ref m0a49, .ref m0a50, .ref m0a51, .int 0, .ref m0a53, .ref m0a54, .ref m0a55, .ref m0a56, .ref m0a57, .ref m0a58, .ref m0a59, .ref m0a60, .ref m0a61, .ref m0a62, .ref m0a63, .long 0, .int 0, .int (-9), .ref m0a67, .ref m0a68, .ref m0a69, .ref m0a70, .ref m0a71, .ref m0a72, .ref m0a73, .ref m0a74, .ref m0a75, .long 0])), (m0a1, .inl (cI g, 6, .inl (fun _ => 0))), (m0a8, .inl (cI g, 4, .inl (fun _ => (-9))))] H) (hD : va_D (laA s) [(x0, .inr (11, [.ref xr, .ref xt, .ref xg, .ref xb, .ref xp, .ref xu, .ref xm, .ref xd, .ref xw, .ref xh, .ref xa, .ref xs, .ref xf, .int 0, .int 0, .long 0, .long 0, .int 0])), (xt, .inr (8, [.int 4, .int 32, .ref xts, .ref xtp])), (xts, .inl (cI g, 6, .inl (fun _ => (-1)))), (xu, .inr (7, [.ref xua0, .ref xua1, .ref xua2, .int 0])), (xf, .inl (cI g, 6, .inl (fun _ => 0))), (m0, .inr (12, [.int 0, .ref m0a1, .int 0, .long 0, .int 0, .ref m0a5, .ref m0a6, .ref m0a7, .ref m0a8, .ref m0a9, .int 0, .ref m0a11, .ref m0a12, .ref m0a13, .ref m0a14, .ref m0a15, .ref m0a16, .int 0, .ref m0a18, .ref m0a19, .ref m0a20, .ref m0a21, .ref m0a22, .int 0, .ref m0a24, .ref m0a25, .ref m0a26, .int 0, .ref m0a28, .ref m0a29, .ref m0a30, .ref m0a31, .int 0, .ref m0a33, .ref m0a34, .ref m0a35, .ref m0a36, .ref m0a37, .ref m0a38, .ref m0a39, .ref m0a40, .ref m0a41, .ref m0a42, .ref m0a43, .ref m0a44, .ref m0a45, .ref m0a46, .ref m0a47, .int 0, .ref m0a49, .ref m0a50, .ref m0a51, .int 0, .ref m0a53, .ref m0a54, .ref m0a55, .ref m0a56, .ref m0a57, .ref m0a58, .ref m0a59, .ref m0a60, .ref m0a61, .ref m0a62, .ref m0a63, .long 0, .int 0, .int (-9), .ref m0a67, .ref m0a68, .ref m0a69, .ref m0a70, .ref m0a71, .ref m0a72, .ref m0a73, .ref m0a74, .ref m0a75, .long 0])), (m0a1, .inl (cI g, 6, .inl (fun _ => 0))), (m0a8, .inl (cI g, 4, .inl (fun _ => (-9))))]) (hS : va_S (laA s) s.heap H locs) (hl : lv_has ls 4 [(3, .int 0), (2, .ref m0), (1, .ref x0), (0, .ref b)]) {Q : State → Prop} (kend : ∀ (H : Heap) (locs : List Loc) (ls : Array Slot), va_S (laA s) s.heap H locs → lv_has ls 4 [(0, .ref b), (3, .int 0)] → W p l e room_1 s m #[Value.ref b] below meth c H locs 141 11384 Q (F0 m 1955 ls [])) : W p l e room_1 s m #[Value.ref b] below meth c H locs 141 11384 Q (F0 m 868 ls []) := by
  have hx := X.1
  have hb := X.2.1
  have hml := X.2.2.1
  have hown := X.2.2.2.1
  have hts := X.2.2.2.2.1
  refine lv_aload_n hx hb dL_law_868 rfl (lv_at hl 2 rfl) ?_
  refine lv_aload_n hx hb dL_law_869 rfl (lv_at hl 3 rfl) ?_
  refine lv_iload_n hx hb dL_law_870 rfl (lv_at hl 0 rfl) ?_
  refine lv_iconst (v := 1) hx hb dL_law_871 (by decide) ?_
  refine lv_iadd hx hb dL_law_872 ?_
  refine lv_topk (v := 1) (by decide) ?_
  refine va_sld hx hb hX hbl hbA hS (by unfold vp_in; decide) dL_law_873 ?_
  refine lv_topk (v := scr 1) rfl ?_
  refine lv_aload_n hx hb dL_law_874 rfl (lv_at hl 3 rfl) ?_
  refine lv_iload_n hx hb dL_law_875 rfl (lv_at hl 0 rfl) ?_
  refine lv_iconst (v := 2) hx hb dL_law_876 (by decide) ?_
  refine lv_iadd hx hb dL_law_877 ?_
  refine lv_topk (v := 2) (by decide) ?_
  refine va_sld hx hb hX hbl hbA hS (by unfold vp_in; decide) dL_law_878 ?_
  refine lv_topk (v := scr 2) rfl ?_
  refine kVi (As := [.int (scr 1), .int (scr 2)]) (rest := []) (wr := [(m0, .inr (12, [.int 0, .ref m0a1, .int 0, .long 0, .int 0, .ref m0a5, .ref m0a6, .ref m0a7, .ref m0a8, .ref m0a9, .int 0, .ref m0a11, .ref m0a12, .ref m0a13, .ref m0a14, .ref m0a15, .ref m0a16, .int 0, .ref m0a18, .ref m0a19, .ref m0a20, .ref m0a21, .ref m0a22, .int 0, .ref m0a24, .ref m0a25, .ref m0a26, .int 0, .ref m0a28, .ref m0a29, .ref m0a30, .ref m0a31, .int 0, .ref m0a33, .ref m0a34, .ref m0a35, .ref m0a36, .ref m0a37, .ref m0a38, .ref m0a39, .ref m0a40, .ref m0a41, .ref m0a42, .ref m0a43, .ref m0a44, .ref m0a45, .ref m0a46, .ref m0a47, .int 0, .ref m0a49, .ref m0a50, .ref m0a51, .int 0, .ref m0a53, .ref m0a54, .ref m0a55, .ref m0a56, .ref m0a57, .ref m0a58, .ref m0a59, .ref m0a60, .ref m0a61, .ref m0a62, .ref m0a63, .long 0, .int 0, .int (-9), .ref m0a67, .ref m0a68, .ref m0a69, .ref m0a70, .ref m0a71, .ref m0a72, .ref m0a73, .ref m0a74, .ref m0a75, .long 0])), (m0a1, .inl (cI g, 6, .inl (fun _ => 0))), (m0a8, .inl (cI g, 4, .inl (fun _ => (-9))))]) X (c_X11_rule l g x0 (scr 1) (scr 2) xr xt xg xb xp xu xm xd xw xh xa xs xf xts xtp xua0 xua1 xua2) ok_X11_rule okv_X11_rule q_748 rfl hK hP hD hS hA hZ hl.1 [0, 1, 2, 3, 4] [5, 6, 7] rfl rfl rfl rfl rfl 0 11 rfl rfl rfl (Nat.le_of_ble_eq_true rfl) ⟨Nat.le_of_ble_eq_true rfl, Nat.le_of_ble_eq_true rfl⟩ dL_law_879 ⟨Nat.le_of_ble_eq_true rfl, Nat.le_of_ble_eq_true rfl⟩ (fun r_1 w1 H locs hw_2 hP hD hS => ?_)
  have hP := pSub hP (ws' := [(m0, .inr (12, [.int 0, .ref m0a1, .int 0, .long 0, .int 0, .ref m0a5, .ref m0a6, .ref m0a7, .ref m0a8, .ref m0a9, .int 0, .ref m0a11, .ref m0a12, .ref m0a13, .ref m0a14, .ref m0a15, .ref m0a16, .int 0, .ref m0a18, .ref m0a19, .ref m0a20, .ref m0a21, .ref m0a22, .int 0, .ref m0a24, .ref m0a25, .ref m0a26, .int 0, .ref m0a28, .ref m0a29, .ref m0a30, .ref m0a31, .int 0, .ref m0a33, .ref m0a34, .ref m0a35, .ref m0a36, .ref m0a37, .ref m0a38, .ref m0a39, .ref m0a40, .ref m0a41, .ref m0a42, .ref m0a43, .ref m0a44, .ref m0a45, .ref m0a46, .ref m0a47, .int 0, .ref m0a49, .ref m0a50, .ref m0a51, .int 0, .ref m0a53, .ref m0a54, .ref m0a55, .ref m0a56, .ref m0a57, .ref m0a58, .ref m0a59, .ref m0a60, .ref m0a61, .ref m0a62, .ref m0a63, .long 0, .int 0, .int (-9), .ref m0a67, .ref m0a68, .ref m0a69, .ref m0a70, .ref m0a71, .ref m0a72, .ref m0a73, .ref m0a74, .ref m0a75, .long 0])), (m0a1, .inl (cI g, 6, .inl (fun _ => 0))), (m0a8, .inl (cI g, 4, .inl (fun _ => (-9))))]) [0, 1, 2] rfl
  have hD := hD.sub (ws' := [(m0, .inr (12, [.int 0, .ref m0a1, .int 0, .long 0, .int 0, .ref m0a5, .ref m0a6, .ref m0a7, .ref m0a8, .ref m0a9, .int 0, .ref m0a11, .ref m0a12, .ref m0a13, .ref m0a14, .ref m0a15, .ref m0a16, .int 0, .ref m0a18, .ref m0a19, .ref m0a20, .ref m0a21, .ref m0a22, .int 0, .ref m0a24, .ref m0a25, .ref m0a26, .int 0, .ref m0a28, .ref m0a29, .ref m0a30, .ref m0a31, .int 0, .ref m0a33, .ref m0a34, .ref m0a35, .ref m0a36, .ref m0a37, .ref m0a38, .ref m0a39, .ref m0a40, .ref m0a41, .ref m0a42, .ref m0a43, .ref m0a44, .ref m0a45, .ref m0a46, .ref m0a47, .int 0, .ref m0a49, .ref m0a50, .ref m0a51, .int 0, .ref m0a53, .ref m0a54, .ref m0a55, .ref m0a56, .ref m0a57, .ref m0a58, .ref m0a59, .ref m0a60, .ref m0a61, .ref m0a62, .ref m0a63, .long 0, .int 0, .int (-9), .ref m0a67, .ref m0a68, .ref m0a69, .ref m0a70, .ref m0a71, .ref m0a72, .ref m0a73, .ref m0a74, .ref m0a75, .long 0])), (m0a1, .inl (cI g, 6, .inl (fun _ => 0))), (m0a8, .inl (cI g, 4, .inl (fun _ => (-9))))]) [0, 1, 2] rfl rfl
  refine lv_aload_n hx hb dL_law_882 rfl (lv_at hl 1 rfl) ?_
  refine lv_aload_n hx hb dL_law_883 rfl (lv_at hl 3 rfl) ?_
  refine lv_iload_n hx hb dL_law_884 rfl (lv_at hl 0 rfl) ?_
  refine lv_iconst (v := 1) hx hb dL_law_885 (by decide) ?_
  refine lv_iadd hx hb dL_law_886 ?_
  refine lv_topk (v := 1) (by decide) ?_
  refine va_sld hx hb hX hbl hbA hS (by unfold vp_in; decide) dL_law_887 ?_
  refine lv_topk (v := scr 1) rfl ?_
  refine lv_aload_n hx hb dL_law_888 rfl (lv_at hl 3 rfl) ?_
  refine lv_iload_n hx hb dL_law_889 rfl (lv_at hl 0 rfl) ?_
  refine lv_iconst (v := 2) hx hb dL_law_890 (by decide) ?_
  refine lv_iadd hx hb dL_law_891 ?_
  refine lv_topk (v := 2) (by decide) ?_
  refine va_sld hx hb hX hbl hbA hS (by unfold vp_in; decide) dL_law_892 ?_
  refine lv_topk (v := scr 2) rfl ?_
  refine kVi (As := [.int (scr 1), .int (scr 2)]) (rest := [.int r_1]) (wr := []) X (c_X12_rule l g m0 (scr 1) (scr 2) m0a1 m0a5 m0a6 m0a7 m0a8 m0a9 m0a11 m0a12 m0a13 m0a14 m0a15 m0a16 m0a18 m0a19 m0a20 m0a21 m0a22 m0a24 m0a25 m0a26 m0a28 m0a29 m0a30 m0a31 m0a33 m0a34 m0a35 m0a36 m0a37 m0a38 m0a39 m0a40 m0a41 m0a42 m0a43 m0a44 m0a45 m0a46 m0a47 m0a49 m0a50 m0a51 m0a53 m0a54 m0a55 m0a56 m0a57 m0a58 m0a59 m0a60 m0a61 m0a62 m0a63 m0a67 m0a68 m0a69 m0a70 m0a71 m0a72 m0a73 m0a74 m0a75) ok_X12_rule okv_X12_rule q_1758 rfl hK hP hD hS hA hZ hl.1 [0, 1, 2] [] rfl rfl rfl rfl rfl 0 12 rfl rfl rfl (Nat.le_of_ble_eq_true rfl) ⟨Nat.le_of_ble_eq_true rfl, Nat.le_of_ble_eq_true rfl⟩ dL_law_893 ⟨Nat.le_of_ble_eq_true rfl, Nat.le_of_ble_eq_true rfl⟩ (fun r_3 w1 H locs hw_4 hP hD hS => ?_)
  have hP := pSub hP (ws' := []) [] rfl
  have hD := hD.sub (ws' := []) [] rfl rfl
  refine lv_icmp_eq (tgt := 1955) hx hb dL_law_896 (by decide) (fun _ => ?_) (fun c => absurd (hw_2.trans ((eq_rule g x0 (scr 1) (scr 2) xr xt xg xb xp xu xm xd xw xh xa xs xf xts xtp xua0 xua1 xua2 m0 m0a1 m0a5 m0a6 m0a7 m0a8 m0a9 m0a11 m0a12 m0a13 m0a14 m0a15 m0a16 m0a18 m0a19 m0a20 m0a21 m0a22 m0a24 m0a25 m0a26 m0a28 m0a29 m0a30 m0a31 m0a33 m0a34 m0a35 m0a36 m0a37 m0a38 m0a39 m0a40 m0a41 m0a42 m0a43 m0a44 m0a45 m0a46 m0a47 m0a49 m0a50 m0a51 m0a53 m0a54 m0a55 m0a56 m0a57 m0a58 m0a59 m0a60 m0a61 m0a62 m0a63 m0a67 m0a68 m0a69 m0a70 m0a71 m0a72 m0a73 m0a74 m0a75).trans hw_4.symm)) c)
  exact kend _ _ _ hS (lv_sub hl [3, 0] rfl)
set_option maxHeartbeats 4000000 in
set_option maxRecDepth 100000 in
theorem law_17 (l : Launch) (g : GG) {p : Program} {e : Env} {s : State} {m : MethodId} {below : List Frame} {meth : Method} {c : Code} {b : Nat} {scr : Nat → Int32} (X : En p s m #[Value.ref b] meth c cL_law 4 ret R_law meth.name) (hK : va_K g.1 classes (tyG g) s) (hA : ∀ q, s.heap.size ≤ q → laA s q) (hZ : stS g (laA s) s s.heap) (hX : va_X b 6 scr s s.heap) (hbl : b < s.heap.size) (hbA : ¬ laA s b) (x0 : Nat) (xr : Nat) (xt : Nat) (xg : Nat) (xb : Nat) (xp : Nat) (xu : Nat) (xm : Nat) (xd : Nat) (xw : Nat) (xh : Nat) (xa : Nat) (xs : Nat) (xf : Nat) (xua0 : Nat) (xua1 : Nat) (xua2 : Nat) (m0 : Nat) (m0a1 : Nat) (m0a5 : Nat) (m0a6 : Nat) (m0a7 : Nat) (m0a8 : Nat) (m0a9 : Nat) (m0a11 : Nat) (m0a12 : Nat) (m0a13 : Nat) (m0a14 : Nat) (m0a15 : Nat) (m0a16 : Nat) (m0a18 : Nat) (m0a19 : Nat) (m0a20 : Nat) (m0a21 : Nat) (m0a22 : Nat) (m0a24 : Nat) (m0a25 : Nat) (m0a26 : Nat) (m0a28 : Nat) (m0a29 : Nat) (m0a30 : Nat) (m0a31 : Nat) (m0a33 : Nat) (m0a34 : Nat) (m0a35 : Nat) (m0a36 : Nat) (m0a37 : Nat) (m0a38 : Nat) (m0a39 : Nat) (m0a40 : Nat) (m0a41 : Nat) (m0a42 : Nat) (m0a43 : Nat) (m0a44 : Nat) (m0a45 : Nat) (m0a46 : Nat) (m0a47 : Nat) (m0a49 : Nat) (m0a50 : Nat) (m0a51 : Nat) (m0a53 : Nat) (m0a54 : Nat) (m0a55 : Nat) (m0a56 : Nat) (m0a57 : Nat) (m0a58 : Nat) (m0a59 : Nat) (m0a60 : Nat) (m0a61 : Nat) (m0a62 : Nat) (m0a63 : Nat) (m0a67 : Nat) (m0a68 : Nat) (m0a69 : Nat) (m0a70 : Nat) (m0a71 : Nat) (m0a72 : Nat) (m0a73 : Nat) (m0a74 : Nat) (m0a75 : Nat) {H : Heap} {locs : List Loc} {ls : Array Slot} (hP : va_P g.1 classes [(x0, .inr (11, [.ref xr, .ref xt, .ref xg, .ref xb, .ref xp, .ref xu, .ref xm, .ref xd, .ref xw, .ref xh, .ref xa, .ref xs, .ref xf, .int 0, .int 0, .long 0, .long 0, .int 0])), (xu, .inr (7, [.ref xua0, .ref xua1, .ref xua2, .int 0])), (m0, .inr (12, [.int 0, .ref m0a1, .int 0, .long 0, .int 0, .ref m0a5, .ref m0a6, .ref m0a7, .ref m0a8, .ref m0a9, .int 0, .ref m0a11, .ref m0a12, .ref m0a13, .ref m0a14, .ref m0a15, .ref m0a16, .int 0, .ref m0a18, .ref m0a19, .ref m0a20, .ref m0a21, .ref m0a22, .int 0, .ref m0a24, .ref m0a25, .ref m0a26, .int 0, .ref m0a28, .ref m0a29, .ref m0a30, .ref m0a31, .int 0, .ref m0a33, .ref m0a34, .ref m0a35, .ref m0a36, .ref m0a37, .ref m0a38, .ref m0a39, .ref m0a40, .ref m0a41, .ref m0a42, .ref m0a43, .ref m0a44, .ref m0a45, .ref m0a46, .ref m0a47, .int 0, .ref m0a49, .ref m0a50, .ref m0a51, .int 0, .ref m0a53, .ref m0a54, .ref m0a55, .ref m0a56, .ref m0a57, .ref m0a58, .ref m0a59, .ref m0a60, .ref m0a61, .ref m0a62, .ref m0a63, .long 0, .int 0, .int (-9), .ref m0a67, .ref m0a68, .ref m0a69, .ref m0a70, .ref m0a71, .ref m0a72, .ref m0a73, .ref m0a74, .ref m0a75, .long 0]))] H) (hD : va_D (laA s) [(x0, .inr (11, [.ref xr, .ref xt, .ref xg, .ref xb, .ref xp, .ref xu, .ref xm, .ref xd, .ref xw, .ref xh, .ref xa, .ref xs, .ref xf, .int 0, .int 0, .long 0, .long 0, .int 0])), (xu, .inr (7, [.ref xua0, .ref xua1, .ref xua2, .int 0])), (m0, .inr (12, [.int 0, .ref m0a1, .int 0, .long 0, .int 0, .ref m0a5, .ref m0a6, .ref m0a7, .ref m0a8, .ref m0a9, .int 0, .ref m0a11, .ref m0a12, .ref m0a13, .ref m0a14, .ref m0a15, .ref m0a16, .int 0, .ref m0a18, .ref m0a19, .ref m0a20, .ref m0a21, .ref m0a22, .int 0, .ref m0a24, .ref m0a25, .ref m0a26, .int 0, .ref m0a28, .ref m0a29, .ref m0a30, .ref m0a31, .int 0, .ref m0a33, .ref m0a34, .ref m0a35, .ref m0a36, .ref m0a37, .ref m0a38, .ref m0a39, .ref m0a40, .ref m0a41, .ref m0a42, .ref m0a43, .ref m0a44, .ref m0a45, .ref m0a46, .ref m0a47, .int 0, .ref m0a49, .ref m0a50, .ref m0a51, .int 0, .ref m0a53, .ref m0a54, .ref m0a55, .ref m0a56, .ref m0a57, .ref m0a58, .ref m0a59, .ref m0a60, .ref m0a61, .ref m0a62, .ref m0a63, .long 0, .int 0, .int (-9), .ref m0a67, .ref m0a68, .ref m0a69, .ref m0a70, .ref m0a71, .ref m0a72, .ref m0a73, .ref m0a74, .ref m0a75, .long 0]))]) (hS : va_S (laA s) s.heap H locs) (hl : lv_has ls 4 [(3, .int 0), (2, .ref m0), (1, .ref x0), (0, .ref b)]) {Q : State → Prop} (kend : ∀ (H : Heap) (locs : List Loc) (ls : Array Slot), va_S (laA s) s.heap H locs → lv_has ls 4 [(0, .ref b), (3, .int 0)] → W p l e room_1 s m #[Value.ref b] below meth c H locs 141 11384 Q (F0 m 1955 ls [])) : W p l e room_1 s m #[Value.ref b] below meth c H locs 141 11384 Q (F0 m 901 ls []) := by
  have hx := X.1
  have hb := X.2.1
  have hml := X.2.2.1
  have hown := X.2.2.2.1
  have hts := X.2.2.2.2.1
  refine lv_aload_n hx hb dL_law_901 rfl (lv_at hl 2 rfl) ?_
  refine lv_aload_n hx hb dL_law_902 rfl (lv_at hl 3 rfl) ?_
  refine lv_iload_n hx hb dL_law_903 rfl (lv_at hl 0 rfl) ?_
  refine lv_iconst (v := 1) hx hb dL_law_904 (by decide) ?_
  refine lv_iadd hx hb dL_law_905 ?_
  refine lv_topk (v := 1) (by decide) ?_
  refine va_sld hx hb hX hbl hbA hS (by unfold vp_in; decide) dL_law_906 ?_
  refine lv_topk (v := scr 1) rfl ?_
  refine lv_aload_n hx hb dL_law_907 rfl (lv_at hl 3 rfl) ?_
  refine lv_iload_n hx hb dL_law_908 rfl (lv_at hl 0 rfl) ?_
  refine lv_iconst (v := 2) hx hb dL_law_909 (by decide) ?_
  refine lv_iadd hx hb dL_law_910 ?_
  refine lv_topk (v := 2) (by decide) ?_
  refine va_sld hx hb hX hbl hbA hS (by unfold vp_in; decide) dL_law_911 ?_
  refine lv_topk (v := scr 2) rfl ?_
  refine lv_aload_n hx hb dL_law_912 rfl (lv_at hl 3 rfl) ?_
  refine lv_iload_n hx hb dL_law_913 rfl (lv_at hl 0 rfl) ?_
  refine lv_iconst (v := 3) hx hb dL_law_914 (by decide) ?_
  refine lv_iadd hx hb dL_law_915 ?_
  refine lv_topk (v := 3) (by decide) ?_
  refine va_sld hx hb hX hbl hbA hS (by unfold vp_in; decide) dL_law_916 ?_
  refine lv_topk (v := scr 3) rfl ?_
  refine kVi (As := [.int (scr 1), .int (scr 2), .int (scr 3)]) (rest := []) (wr := [(m0, .inr (12, [.int 0, .ref m0a1, .int 0, .long 0, .int 0, .ref m0a5, .ref m0a6, .ref m0a7, .ref m0a8, .ref m0a9, .int 0, .ref m0a11, .ref m0a12, .ref m0a13, .ref m0a14, .ref m0a15, .ref m0a16, .int 0, .ref m0a18, .ref m0a19, .ref m0a20, .ref m0a21, .ref m0a22, .int 0, .ref m0a24, .ref m0a25, .ref m0a26, .int 0, .ref m0a28, .ref m0a29, .ref m0a30, .ref m0a31, .int 0, .ref m0a33, .ref m0a34, .ref m0a35, .ref m0a36, .ref m0a37, .ref m0a38, .ref m0a39, .ref m0a40, .ref m0a41, .ref m0a42, .ref m0a43, .ref m0a44, .ref m0a45, .ref m0a46, .ref m0a47, .int 0, .ref m0a49, .ref m0a50, .ref m0a51, .int 0, .ref m0a53, .ref m0a54, .ref m0a55, .ref m0a56, .ref m0a57, .ref m0a58, .ref m0a59, .ref m0a60, .ref m0a61, .ref m0a62, .ref m0a63, .long 0, .int 0, .int (-9), .ref m0a67, .ref m0a68, .ref m0a69, .ref m0a70, .ref m0a71, .ref m0a72, .ref m0a73, .ref m0a74, .ref m0a75, .long 0]))]) X (c_X11_force l g x0 (scr 1) (scr 2) (scr 3) xr xt xg xb xp xu xm xd xw xh xa xs xf xua0 xua1 xua2) ok_X11_force okv_X11_force q_764 rfl hK hP hD hS hA hZ hl.1 [0, 1] [2] rfl rfl rfl rfl rfl 0 11 rfl rfl rfl (Nat.le_of_ble_eq_true rfl) ⟨Nat.le_of_ble_eq_true rfl, Nat.le_of_ble_eq_true rfl⟩ dL_law_917 ⟨Nat.le_of_ble_eq_true rfl, Nat.le_of_ble_eq_true rfl⟩ (fun r_1 w1 H locs hw_2 hP hD hS => ?_)
  have hP := pSub hP (ws' := [(m0, .inr (12, [.int 0, .ref m0a1, .int 0, .long 0, .int 0, .ref m0a5, .ref m0a6, .ref m0a7, .ref m0a8, .ref m0a9, .int 0, .ref m0a11, .ref m0a12, .ref m0a13, .ref m0a14, .ref m0a15, .ref m0a16, .int 0, .ref m0a18, .ref m0a19, .ref m0a20, .ref m0a21, .ref m0a22, .int 0, .ref m0a24, .ref m0a25, .ref m0a26, .int 0, .ref m0a28, .ref m0a29, .ref m0a30, .ref m0a31, .int 0, .ref m0a33, .ref m0a34, .ref m0a35, .ref m0a36, .ref m0a37, .ref m0a38, .ref m0a39, .ref m0a40, .ref m0a41, .ref m0a42, .ref m0a43, .ref m0a44, .ref m0a45, .ref m0a46, .ref m0a47, .int 0, .ref m0a49, .ref m0a50, .ref m0a51, .int 0, .ref m0a53, .ref m0a54, .ref m0a55, .ref m0a56, .ref m0a57, .ref m0a58, .ref m0a59, .ref m0a60, .ref m0a61, .ref m0a62, .ref m0a63, .long 0, .int 0, .int (-9), .ref m0a67, .ref m0a68, .ref m0a69, .ref m0a70, .ref m0a71, .ref m0a72, .ref m0a73, .ref m0a74, .ref m0a75, .long 0]))]) [0] rfl
  have hD := hD.sub (ws' := [(m0, .inr (12, [.int 0, .ref m0a1, .int 0, .long 0, .int 0, .ref m0a5, .ref m0a6, .ref m0a7, .ref m0a8, .ref m0a9, .int 0, .ref m0a11, .ref m0a12, .ref m0a13, .ref m0a14, .ref m0a15, .ref m0a16, .int 0, .ref m0a18, .ref m0a19, .ref m0a20, .ref m0a21, .ref m0a22, .int 0, .ref m0a24, .ref m0a25, .ref m0a26, .int 0, .ref m0a28, .ref m0a29, .ref m0a30, .ref m0a31, .int 0, .ref m0a33, .ref m0a34, .ref m0a35, .ref m0a36, .ref m0a37, .ref m0a38, .ref m0a39, .ref m0a40, .ref m0a41, .ref m0a42, .ref m0a43, .ref m0a44, .ref m0a45, .ref m0a46, .ref m0a47, .int 0, .ref m0a49, .ref m0a50, .ref m0a51, .int 0, .ref m0a53, .ref m0a54, .ref m0a55, .ref m0a56, .ref m0a57, .ref m0a58, .ref m0a59, .ref m0a60, .ref m0a61, .ref m0a62, .ref m0a63, .long 0, .int 0, .int (-9), .ref m0a67, .ref m0a68, .ref m0a69, .ref m0a70, .ref m0a71, .ref m0a72, .ref m0a73, .ref m0a74, .ref m0a75, .long 0]))]) [0] rfl rfl
  refine lv_aload_n hx hb dL_law_920 rfl (lv_at hl 1 rfl) ?_
  refine lv_aload_n hx hb dL_law_921 rfl (lv_at hl 3 rfl) ?_
  refine lv_iload_n hx hb dL_law_922 rfl (lv_at hl 0 rfl) ?_
  refine lv_iconst (v := 1) hx hb dL_law_923 (by decide) ?_
  refine lv_iadd hx hb dL_law_924 ?_
  refine lv_topk (v := 1) (by decide) ?_
  refine va_sld hx hb hX hbl hbA hS (by unfold vp_in; decide) dL_law_925 ?_
  refine lv_topk (v := scr 1) rfl ?_
  refine lv_aload_n hx hb dL_law_926 rfl (lv_at hl 3 rfl) ?_
  refine lv_iload_n hx hb dL_law_927 rfl (lv_at hl 0 rfl) ?_
  refine lv_iconst (v := 2) hx hb dL_law_928 (by decide) ?_
  refine lv_iadd hx hb dL_law_929 ?_
  refine lv_topk (v := 2) (by decide) ?_
  refine va_sld hx hb hX hbl hbA hS (by unfold vp_in; decide) dL_law_930 ?_
  refine lv_topk (v := scr 2) rfl ?_
  refine lv_aload_n hx hb dL_law_931 rfl (lv_at hl 3 rfl) ?_
  refine lv_iload_n hx hb dL_law_932 rfl (lv_at hl 0 rfl) ?_
  refine lv_iconst (v := 3) hx hb dL_law_933 (by decide) ?_
  refine lv_iadd hx hb dL_law_934 ?_
  refine lv_topk (v := 3) (by decide) ?_
  refine va_sld hx hb hX hbl hbA hS (by unfold vp_in; decide) dL_law_935 ?_
  refine lv_topk (v := scr 3) rfl ?_
  refine kVi (As := [.int (scr 1), .int (scr 2), .int (scr 3)]) (rest := [.int r_1]) (wr := []) X (c_X12_force l g m0 (scr 1) (scr 2) (scr 3) m0a1 m0a5 m0a6 m0a7 m0a8 m0a9 m0a11 m0a12 m0a13 m0a14 m0a15 m0a16 m0a18 m0a19 m0a20 m0a21 m0a22 m0a24 m0a25 m0a26 m0a28 m0a29 m0a30 m0a31 m0a33 m0a34 m0a35 m0a36 m0a37 m0a38 m0a39 m0a40 m0a41 m0a42 m0a43 m0a44 m0a45 m0a46 m0a47 m0a49 m0a50 m0a51 m0a53 m0a54 m0a55 m0a56 m0a57 m0a58 m0a59 m0a60 m0a61 m0a62 m0a63 m0a67 m0a68 m0a69 m0a70 m0a71 m0a72 m0a73 m0a74 m0a75) ok_X12_force okv_X12_force q_1765 rfl hK hP hD hS hA hZ hl.1 [0] [] rfl rfl rfl rfl rfl 0 12 rfl rfl rfl (Nat.le_of_ble_eq_true rfl) ⟨Nat.le_of_ble_eq_true rfl, Nat.le_of_ble_eq_true rfl⟩ dL_law_936 ⟨Nat.le_of_ble_eq_true rfl, Nat.le_of_ble_eq_true rfl⟩ (fun r_3 w1 H locs hw_4 hP hD hS => ?_)
  have hP := pSub hP (ws' := []) [] rfl
  have hD := hD.sub (ws' := []) [] rfl rfl
  refine lv_icmp_eq (tgt := 1955) hx hb dL_law_939 (by decide) (fun _ => ?_) (fun c => absurd (hw_2.trans ((eq_force g x0 (scr 1) (scr 2) (scr 3) xr xt xg xb xp xu xm xd xw xh xa xs xf xua0 xua1 xua2 m0 m0a1 m0a5 m0a6 m0a7 m0a8 m0a9 m0a11 m0a12 m0a13 m0a14 m0a15 m0a16 m0a18 m0a19 m0a20 m0a21 m0a22 m0a24 m0a25 m0a26 m0a28 m0a29 m0a30 m0a31 m0a33 m0a34 m0a35 m0a36 m0a37 m0a38 m0a39 m0a40 m0a41 m0a42 m0a43 m0a44 m0a45 m0a46 m0a47 m0a49 m0a50 m0a51 m0a53 m0a54 m0a55 m0a56 m0a57 m0a58 m0a59 m0a60 m0a61 m0a62 m0a63 m0a67 m0a68 m0a69 m0a70 m0a71 m0a72 m0a73 m0a74 m0a75).trans hw_4.symm)) c)
  exact kend _ _ _ hS (lv_sub hl [3, 0] rfl)
