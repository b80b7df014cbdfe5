set_option maxRecDepth 200000 in
theorem w_516 : Cond.code yX11_row cX11_row 3 (some .int) ∈ tb := tb_mem 516 (by rfl) rfl
set_option maxRecDepth 200000 in
theorem w_514 : Cond.instanceMethod yX11_row ∈ tb := tb_mem 514 (by decide +kernel) rfl
set_option maxRecDepth 200000 in
theorem w_515 : Cond.selects "CityRoad" yX11_row yX11_row ∈ tb := tb_mem 515 (by decide +kernel) rfl
set_option maxRecDepth 200000 in
theorem w_513 : Cond.methodLink "CityRoadLaw" 13 yX11_row ∈ tb := tb_mem 513 (by decide +kernel) rfl
set_option maxRecDepth 200000 in
theorem w_1701 : Cond.code yX12_row cX12_row 4 (some .int) ∈ tb := tb_mem 1701 (by rfl) rfl
set_option maxRecDepth 200000 in
theorem w_1699 : Cond.instanceMethod yX12_row ∈ tb := tb_mem 1699 (by decide +kernel) rfl
set_option maxRecDepth 200000 in
theorem w_1700 : Cond.selects "CityRoadModel" yX12_row yX12_row ∈ tb := tb_mem 1700 (by decide +kernel) rfl
set_option maxRecDepth 200000 in
theorem w_1698 : Cond.methodLink "CityRoadLaw" 17 yX12_row ∈ tb := tb_mem 1698 (by decide +kernel) rfl
set_option maxRecDepth 200000 in
theorem w_538 : Cond.code yX11_lay cX11_lay 4 (some .int) ∈ tb := tb_mem 538 (by rfl) rfl
set_option maxRecDepth 200000 in
theorem w_536 : Cond.instanceMethod yX11_lay ∈ tb := tb_mem 536 (by decide +kernel) rfl
set_option maxRecDepth 200000 in
theorem w_537 : Cond.selects "CityRoad" yX11_lay yX11_lay ∈ tb := tb_mem 537 (by decide +kernel) rfl
set_option maxRecDepth 200000 in
theorem w_535 : Cond.methodLink "CityRoadLaw" 18 yX11_lay ∈ tb := tb_mem 535 (by decide +kernel) rfl
set_option maxRecDepth 200000 in
theorem w_1715 : Cond.code yX12_lay cX12_lay 5 (some .int) ∈ tb := tb_mem 1715 (by rfl) rfl
set_option maxRecDepth 200000 in
theorem w_1713 : Cond.instanceMethod yX12_lay ∈ tb := tb_mem 1713 (by decide +kernel) rfl
set_option maxRecDepth 200000 in
theorem w_1714 : Cond.selects "CityRoadModel" yX12_lay yX12_lay ∈ tb := tb_mem 1714 (by decide +kernel) rfl
set_option maxRecDepth 200000 in
theorem w_1712 : Cond.methodLink "CityRoadLaw" 22 yX12_lay ∈ tb := tb_mem 1712 (by decide +kernel) rfl
set_option maxRecDepth 200000 in
theorem w_558 : Cond.code yX11_tear cX11_tear 2 (some .int) ∈ tb := tb_mem 558 (by rfl) rfl
set_option maxRecDepth 200000 in
theorem w_556 : Cond.instanceMethod yX11_tear ∈ tb := tb_mem 556 (by decide +kernel) rfl
set_option maxRecDepth 200000 in
theorem w_557 : Cond.selects "CityRoad" yX11_tear yX11_tear ∈ tb := tb_mem 557 (by decide +kernel) rfl
set_option maxRecDepth 200000 in
theorem w_555 : Cond.methodLink "CityRoadLaw" 23 yX11_tear ∈ tb := tb_mem 555 (by decide +kernel) rfl
set_option maxRecDepth 200000 in
theorem w_1723 : Cond.code yX12_tear cX12_tear 3 (some .int) ∈ tb := tb_mem 1723 (by rfl) rfl
set_option maxRecDepth 200000 in
theorem w_1721 : Cond.instanceMethod yX12_tear ∈ tb := tb_mem 1721 (by decide +kernel) rfl
set_option maxRecDepth 200000 in
theorem w_1722 : Cond.selects "CityRoadModel" yX12_tear yX12_tear ∈ tb := tb_mem 1722 (by decide +kernel) rfl
set_option maxRecDepth 200000 in
theorem w_1720 : Cond.methodLink "CityRoadLaw" 27 yX12_tear ∈ tb := tb_mem 1720 (by decide +kernel) rfl
set_option maxRecDepth 200000 in
theorem w_566 : Cond.code yX11_copy cX11_copy 6 (some .int) ∈ tb := tb_mem 566 (by rfl) rfl
set_option maxRecDepth 200000 in
theorem w_564 : Cond.instanceMethod yX11_copy ∈ tb := tb_mem 564 (by decide +kernel) rfl
set_option maxRecDepth 200000 in
theorem w_565 : Cond.selects "CityRoad" yX11_copy yX11_copy ∈ tb := tb_mem 565 (by decide +kernel) rfl
set_option maxRecDepth 200000 in
theorem w_563 : Cond.methodLink "CityRoadLaw" 28 yX11_copy ∈ tb := tb_mem 563 (by decide +kernel) rfl
set_option maxRecDepth 200000 in
theorem w_1727 : Cond.code yX12_copy cX12_copy 7 (some .int) ∈ tb := tb_mem 1727 (by rfl) rfl
set_option maxRecDepth 200000 in
theorem w_1725 : Cond.instanceMethod yX12_copy ∈ tb := tb_mem 1725 (by decide +kernel) rfl
set_option maxRecDepth 200000 in
theorem w_1726 : Cond.selects "CityRoadModel" yX12_copy yX12_copy ∈ tb := tb_mem 1726 (by decide +kernel) rfl
set_option maxRecDepth 200000 in
theorem w_1724 : Cond.methodLink "CityRoadLaw" 32 yX12_copy ∈ tb := tb_mem 1724 (by decide +kernel) rfl
set_option maxRecDepth 200000 in
theorem w_581 : Cond.code yX11_text cX11_text 3 (some .int) ∈ tb := tb_mem 581 (by rfl) rfl
set_option maxRecDepth 200000 in
theorem w_579 : Cond.instanceMethod yX11_text ∈ tb := tb_mem 579 (by decide +kernel) rfl
set_option maxRecDepth 200000 in
theorem w_580 : Cond.selects "CityRoad" yX11_text yX11_text ∈ tb := tb_mem 580 (by decide +kernel) rfl
set_option maxRecDepth 200000 in
theorem w_578 : Cond.methodLink "CityRoadLaw" 33 yX11_text ∈ tb := tb_mem 578 (by decide +kernel) rfl
set_option maxRecDepth 200000 in
theorem w_1731 : Cond.code yX12_text cX12_text 4 (some .int) ∈ tb := tb_mem 1731 (by rfl) rfl
set_option maxRecDepth 200000 in
theorem w_1729 : Cond.instanceMethod yX12_text ∈ tb := tb_mem 1729 (by decide +kernel) rfl
set_option maxRecDepth 200000 in
theorem w_1730 : Cond.selects "CityRoadModel" yX12_text yX12_text ∈ tb := tb_mem 1730 (by decide +kernel) rfl
set_option maxRecDepth 200000 in
theorem w_1728 : Cond.methodLink "CityRoadLaw" 36 yX12_text ∈ tb := tb_mem 1728 (by decide +kernel) rfl
set_option maxRecDepth 200000 in
theorem w_585 : Cond.code yX11_put cX11_put 4 (some .int) ∈ tb := tb_mem 585 (by rfl) rfl
set_option maxRecDepth 200000 in
theorem w_583 : Cond.instanceMethod yX11_put ∈ tb := tb_mem 583 (by decide +kernel) rfl
set_option maxRecDepth 200000 in
theorem w_584 : Cond.selects "CityRoad" yX11_put yX11_put ∈ tb := tb_mem 584 (by decide +kernel) rfl
set_option maxRecDepth 200000 in
theorem w_582 : Cond.methodLink "CityRoadLaw" 37 yX11_put ∈ tb := tb_mem 582 (by decide +kernel) rfl
set_option maxRecDepth 200000 in
theorem w_1738 : Cond.code yX12_put cX12_put 6 (some .int) ∈ tb := tb_mem 1738 (by rfl) rfl
set_option maxRecDepth 200000 in
theorem w_1736 : Cond.instanceMethod yX12_put ∈ tb := tb_mem 1736 (by decide +kernel) rfl
set_option maxRecDepth 200000 in
theorem w_1737 : Cond.selects "CityRoadModel" yX12_put yX12_put ∈ tb := tb_mem 1737 (by decide +kernel) rfl
set_option maxRecDepth 200000 in
theorem w_1735 : Cond.methodLink "CityRoadLaw" 40 yX12_put ∈ tb := tb_mem 1735 (by decide +kernel) rfl
set_option maxRecDepth 200000 in
theorem w_589 : Cond.code yX11_fault cX11_fault 2 (some .int) ∈ tb := tb_mem 589 (by rfl) rfl
set_option maxRecDepth 200000 in
theorem w_587 : Cond.instanceMethod yX11_fault ∈ tb := tb_mem 587 (by decide +kernel) rfl
set_option maxRecDepth 200000 in
theorem w_588 : Cond.selects "CityRoad" yX11_fault yX11_fault ∈ tb := tb_mem 588 (by decide +kernel) rfl
set_option maxRecDepth 200000 in
theorem w_586 : Cond.methodLink "CityRoadLaw" 41 yX11_fault ∈ tb := tb_mem 586 (by decide +kernel) rfl
set_option maxRecDepth 200000 in
theorem w_1750 : Cond.code yX12_fault cX12_fault 3 (some .int) ∈ tb := tb_mem 1750 (by rfl) rfl
set_option maxRecDepth 200000 in
theorem w_1748 : Cond.instanceMethod yX12_fault ∈ tb := tb_mem 1748 (by decide +kernel) rfl
set_option maxRecDepth 200000 in
theorem w_1749 : Cond.selects "CityRoadModel" yX12_fault yX12_fault ∈ tb := tb_mem 1749 (by decide +kernel) rfl
set_option maxRecDepth 200000 in
theorem w_1747 : Cond.methodLink "CityRoadLaw" 44 yX12_fault ∈ tb := tb_mem 1747 (by decide +kernel) rfl
set_option maxRecDepth 200000 in
theorem w_616 : Cond.code yX11_later cX11_later 2 (some .int) ∈ tb := tb_mem 616 (by rfl) rfl
set_option maxRecDepth 200000 in
theorem w_614 : Cond.instanceMethod yX11_later ∈ tb := tb_mem 614 (by decide +kernel) rfl
set_option maxRecDepth 200000 in
theorem w_615 : Cond.selects "CityRoad" yX11_later yX11_later ∈ tb := tb_mem 615 (by decide +kernel) rfl
set_option maxRecDepth 200000 in
theorem w_613 : Cond.methodLink "CityRoadLaw" 45 yX11_later ∈ tb := tb_mem 613 (by decide +kernel) rfl
set_option maxRecDepth 200000 in
theorem w_1746 : Cond.code yX12_later cX12_later 2 (some .int) ∈ tb := tb_mem 1746 (by rfl) rfl
set_option maxRecDepth 200000 in
theorem w_1744 : Cond.instanceMethod yX12_later ∈ tb := tb_mem 1744 (by decide +kernel) rfl
set_option maxRecDepth 200000 in
theorem w_1745 : Cond.selects "CityRoadModel" yX12_later yX12_later ∈ tb := tb_mem 1745 (by decide +kernel) rfl
set_option maxRecDepth 200000 in
theorem w_1743 : Cond.methodLink "CityRoadLaw" 48 yX12_later ∈ tb := tb_mem 1743 (by decide +kernel) rfl
set_option maxRecDepth 200000 in
theorem w_620 : Cond.code yX11_cell cX11_cell 4 (some .int) ∈ tb := tb_mem 620 (by rfl) rfl
set_option maxRecDepth 200000 in
theorem w_618 : Cond.instanceMethod yX11_cell ∈ tb := tb_mem 618 (by decide +kernel) rfl
set_option maxRecDepth 200000 in
theorem w_619 : Cond.selects "CityRoad" yX11_cell yX11_cell ∈ tb := tb_mem 619 (by decide +kernel) rfl
set_option maxRecDepth 200000 in
theorem w_617 : Cond.methodLink "CityRoadLaw" 49 yX11_cell ∈ tb := tb_mem 617 (by decide +kernel) rfl
set_option maxRecDepth 200000 in
theorem w_1787 : Cond.code yX12_cell cX12_cell 4 (some .int) ∈ tb := tb_mem 1787 (by rfl) rfl
set_option maxRecDepth 200000 in
theorem w_1785 : Cond.instanceMethod yX12_cell ∈ tb := tb_mem 1785 (by decide +kernel) rfl
set_option maxRecDepth 200000 in
theorem w_1786 : Cond.selects "CityRoadModel" yX12_cell yX12_cell ∈ tb := tb_mem 1786 (by decide +kernel) rfl
set_option maxRecDepth 200000 in
theorem w_1784 : Cond.methodLink "CityRoadLaw" 52 yX12_cell ∈ tb := tb_mem 1784 (by decide +kernel) rfl
set_option maxRecDepth 200000 in
theorem w_635 : Cond.code yX11_building cX11_building 5 (some .int) ∈ tb := tb_mem 635 (by rfl) rfl
set_option maxRecDepth 200000 in
theorem w_633 : Cond.instanceMethod yX11_building ∈ tb := tb_mem 633 (by decide +kernel) rfl
set_option maxRecDepth 200000 in
theorem w_634 : Cond.selects "CityRoad" yX11_building yX11_building ∈ tb := tb_mem 634 (by decide +kernel) rfl
set_option maxRecDepth 200000 in
theorem w_632 : Cond.methodLink "CityRoadLaw" 53 yX11_building ∈ tb := tb_mem 632 (by decide +kernel) rfl
set_option maxRecDepth 200000 in
theorem w_1798 : Cond.code yX12_building cX12_building 5 (some .int) ∈ tb := tb_mem 1798 (by rfl) rfl
set_option maxRecDepth 200000 in
theorem w_1796 : Cond.instanceMethod yX12_building ∈ tb := tb_mem 1796 (by decide +kernel) rfl
set_option maxRecDepth 200000 in
theorem w_1797 : Cond.selects "CityRoadModel" yX12_building yX12_building ∈ tb := tb_mem 1797 (by decide +kernel) rfl
set_option maxRecDepth 200000 in
theorem w_1795 : Cond.methodLink "CityRoadLaw" 57 yX12_building ∈ tb := tb_mem 1795 (by decide +kernel) rfl
set_option maxRecDepth 200000 in
theorem w_666 : Cond.code yX11_worth cX11_worth 4 (some .int) ∈ tb := tb_mem 666 (by rfl) rfl
set_option maxRecDepth 200000 in
theorem w_664 : Cond.instanceMethod yX11_worth ∈ tb := tb_mem 664 (by decide +kernel) rfl
set_option maxRecDepth 200000 in
theorem w_665 : Cond.selects "CityRoad" yX11_worth yX11_worth ∈ tb := tb_mem 665 (by decide +kernel) rfl
set_option maxRecDepth 200000 in
theorem w_663 : Cond.methodLink "CityRoadLaw" 58 yX11_worth ∈ tb := tb_mem 663 (by decide +kernel) rfl
set_option maxRecDepth 200000 in
theorem w_1810 : Cond.code yX12_worth cX12_worth 4 (some .int) ∈ tb := tb_mem 1810 (by rfl) rfl
set_option maxRecDepth 200000 in
theorem w_1808 : Cond.instanceMethod yX12_worth ∈ tb := tb_mem 1808 (by decide +kernel) rfl
set_option maxRecDepth 200000 in
theorem w_1809 : Cond.selects "CityRoadModel" yX12_worth yX12_worth ∈ tb := tb_mem 1809 (by decide +kernel) rfl
set_option maxRecDepth 200000 in
theorem w_1807 : Cond.methodLink "CityRoadLaw" 61 yX12_worth ∈ tb := tb_mem 1807 (by decide +kernel) rfl
set_option maxRecDepth 200000 in
theorem w_683 : Cond.code yX11_value cX11_value 3 (some .int) ∈ tb := tb_mem 683 (by rfl) rfl
set_option maxRecDepth 200000 in
theorem w_681 : Cond.instanceMethod yX11_value ∈ tb := tb_mem 681 (by decide +kernel) rfl
set_option maxRecDepth 200000 in
theorem w_682 : Cond.selects "CityRoad" yX11_value yX11_value ∈ tb := tb_mem 682 (by decide +kernel) rfl
set_option maxRecDepth 200000 in
theorem w_680 : Cond.methodLink "CityRoadLaw" 62 yX11_value ∈ tb := tb_mem 680 (by decide +kernel) rfl
set_option maxRecDepth 200000 in
theorem w_1822 : Cond.code yX12_value cX12_value 3 (some .int) ∈ tb := tb_mem 1822 (by rfl) rfl
set_option maxRecDepth 200000 in
theorem w_1820 : Cond.instanceMethod yX12_value ∈ tb := tb_mem 1820 (by decide +kernel) rfl
set_option maxRecDepth 200000 in
theorem w_1821 : Cond.selects "CityRoadModel" yX12_value yX12_value ∈ tb := tb_mem 1821 (by decide +kernel) rfl
set_option maxRecDepth 200000 in
theorem w_1819 : Cond.methodLink "CityRoadLaw" 65 yX12_value ∈ tb := tb_mem 1819 (by decide +kernel) rfl
set_option maxRecDepth 200000 in
theorem w_694 : Cond.code yX11_house cX11_house 3 (some .int) ∈ tb := tb_mem 694 (by rfl) rfl
set_option maxRecDepth 200000 in
theorem w_692 : Cond.instanceMethod yX11_house ∈ tb := tb_mem 692 (by decide +kernel) rfl
set_option maxRecDepth 200000 in
theorem w_693 : Cond.selects "CityRoad" yX11_house yX11_house ∈ tb := tb_mem 693 (by decide +kernel) rfl
set_option maxRecDepth 200000 in
theorem w_691 : Cond.methodLink "CityRoadLaw" 66 yX11_house ∈ tb := tb_mem 691 (by decide +kernel) rfl
set_option maxRecDepth 200000 in
theorem w_1826 : Cond.code yX12_house cX12_house 3 (some .int) ∈ tb := tb_mem 1826 (by rfl) rfl
set_option maxRecDepth 200000 in
theorem w_1824 : Cond.instanceMethod yX12_house ∈ tb := tb_mem 1824 (by decide +kernel) rfl
set_option maxRecDepth 200000 in
theorem w_1825 : Cond.selects "CityRoadModel" yX12_house yX12_house ∈ tb := tb_mem 1825 (by decide +kernel) rfl
set_option maxRecDepth 200000 in
theorem w_1823 : Cond.methodLink "CityRoadLaw" 69 yX12_house ∈ tb := tb_mem 1823 (by decide +kernel) rfl
set_option maxRecDepth 200000 in
theorem w_702 : Cond.code yX11_person cX11_person 6 (some .int) ∈ tb := tb_mem 702 (by rfl) rfl
set_option maxRecDepth 200000 in
theorem w_700 : Cond.instanceMethod yX11_person ∈ tb := tb_mem 700 (by decide +kernel) rfl
set_option maxRecDepth 200000 in
theorem w_701 : Cond.selects "CityRoad" yX11_person yX11_person ∈ tb := tb_mem 701 (by decide +kernel) rfl
set_option maxRecDepth 200000 in
theorem w_699 : Cond.methodLink "CityRoadLaw" 70 yX11_person ∈ tb := tb_mem 699 (by decide +kernel) rfl
set_option maxRecDepth 200000 in
theorem w_1842 : Cond.code yX12_person cX12_person 5 (some .int) ∈ tb := tb_mem 1842 (by rfl) rfl
set_option maxRecDepth 200000 in
theorem w_1840 : Cond.instanceMethod yX12_person ∈ tb := tb_mem 1840 (by decide +kernel) rfl
set_option maxRecDepth 200000 in
theorem w_1841 : Cond.selects "CityRoadModel" yX12_person yX12_person ∈ tb := tb_mem 1841 (by decide +kernel) rfl
set_option maxRecDepth 200000 in
theorem w_1839 : Cond.methodLink "CityRoadLaw" 74 yX12_person ∈ tb := tb_mem 1839 (by decide +kernel) rfl
set_option maxRecDepth 200000 in
theorem w_734 : Cond.code yX11_who cX11_who 3 (some .int) ∈ tb := tb_mem 734 (by rfl) rfl
set_option maxRecDepth 200000 in
theorem w_732 : Cond.instanceMethod yX11_who ∈ tb := tb_mem 732 (by decide +kernel) rfl
set_option maxRecDepth 200000 in
theorem w_733 : Cond.selects "CityRoad" yX11_who yX11_who ∈ tb := tb_mem 733 (by decide +kernel) rfl
set_option maxRecDepth 200000 in
theorem w_731 : Cond.methodLink "CityRoadLaw" 75 yX11_who ∈ tb := tb_mem 731 (by decide +kernel) rfl
set_option maxRecDepth 200000 in
theorem w_1850 : Cond.code yX12_who cX12_who 3 (some .int) ∈ tb := tb_mem 1850 (by rfl) rfl
set_option maxRecDepth 200000 in
theorem w_1848 : Cond.instanceMethod yX12_who ∈ tb := tb_mem 1848 (by decide +kernel) rfl
set_option maxRecDepth 200000 in
theorem w_1849 : Cond.selects "CityRoadModel" yX12_who yX12_who ∈ tb := tb_mem 1849 (by decide +kernel) rfl
set_option maxRecDepth 200000 in
theorem w_1847 : Cond.methodLink "CityRoadLaw" 78 yX12_who ∈ tb := tb_mem 1847 (by decide +kernel) rfl
set_option maxRecDepth 200000 in
theorem w_746 : Cond.code yX11_mean cX11_mean 5 (some .int) ∈ tb := tb_mem 746 (by rfl) rfl
set_option maxRecDepth 200000 in
theorem w_744 : Cond.instanceMethod yX11_mean ∈ tb := tb_mem 744 (by decide +kernel) rfl
set_option maxRecDepth 200000 in
theorem w_745 : Cond.selects "CityRoad" yX11_mean yX11_mean ∈ tb := tb_mem 745 (by decide +kernel) rfl
set_option maxRecDepth 200000 in
theorem w_743 : Cond.methodLink "CityRoadLaw" 79 yX11_mean ∈ tb := tb_mem 743 (by decide +kernel) rfl
set_option maxRecDepth 200000 in
theorem w_1862 : Cond.code yX12_mean cX12_mean 6 (some .int) ∈ tb := tb_mem 1862 (by rfl) rfl
set_option maxRecDepth 200000 in
theorem w_1860 : Cond.instanceMethod yX12_mean ∈ tb := tb_mem 1860 (by decide +kernel) rfl
set_option maxRecDepth 200000 in
theorem w_1861 : Cond.selects "CityRoadModel" yX12_mean yX12_mean ∈ tb := tb_mem 1861 (by decide +kernel) rfl
set_option maxRecDepth 200000 in
theorem w_1859 : Cond.methodLink "CityRoadLaw" 82 yX12_mean ∈ tb := tb_mem 1859 (by decide +kernel) rfl
set_option maxRecDepth 200000 in
theorem w_751 : Cond.code yX11_rule cX11_rule 3 (some .int) ∈ tb := tb_mem 751 (by rfl) rfl
set_option maxRecDepth 200000 in
theorem w_749 : Cond.instanceMethod yX11_rule ∈ tb := tb_mem 749 (by decide +kernel) rfl
set_option maxRecDepth 200000 in
theorem w_750 : Cond.selects "CityRoad" yX11_rule yX11_rule ∈ tb := tb_mem 750 (by decide +kernel) rfl
set_option maxRecDepth 200000 in
theorem w_748 : Cond.methodLink "CityRoadLaw" 83 yX11_rule ∈ tb := tb_mem 748 (by decide +kernel) rfl
set_option maxRecDepth 200000 in
theorem w_1761 : Cond.code yX12_rule cX12_rule 4 (some .int) ∈ tb := tb_mem 1761 (by rfl) rfl
set_option maxRecDepth 200000 in
theorem w_1759 : Cond.instanceMethod yX12_rule ∈ tb := tb_mem 1759 (by decide +kernel) rfl
set_option maxRecDepth 200000 in
theorem w_1760 : Cond.selects "CityRoadModel" yX12_rule yX12_rule ∈ tb := tb_mem 1760 (by decide +kernel) rfl
set_option maxRecDepth 200000 in
theorem w_1758 : Cond.methodLink "CityRoadLaw" 86 yX12_rule ∈ tb := tb_mem 1758 (by decide +kernel) rfl
set_option maxRecDepth 200000 in
theorem w_767 : Cond.code yX11_force cX11_force 4 (some .int) ∈ tb := tb_mem 767 (by rfl) rfl
set_option maxRecDepth 200000 in
theorem w_765 : Cond.instanceMethod yX11_force ∈ tb := tb_mem 765 (by decide +kernel) rfl
set_option maxRecDepth 200000 in
theorem w_766 : Cond.selects "CityRoad" yX11_force yX11_force ∈ tb := tb_mem 766 (by decide +kernel) rfl
set_option maxRecDepth 200000 in
theorem w_764 : Cond.methodLink "CityRoadLaw" 87 yX11_force ∈ tb := tb_mem 764 (by decide +kernel) rfl
set_option maxRecDepth 200000 in
theorem w_1768 : Cond.code yX12_force cX12_force 4 (some .int) ∈ tb := tb_mem 1768 (by rfl) rfl
set_option maxRecDepth 200000 in
theorem w_1766 : Cond.instanceMethod yX12_force ∈ tb := tb_mem 1766 (by decide +kernel) rfl
set_option maxRecDepth 200000 in
theorem w_1767 : Cond.selects "CityRoadModel" yX12_force yX12_force ∈ tb := tb_mem 1767 (by decide +kernel) rfl
set_option maxRecDepth 200000 in
theorem w_1765 : Cond.methodLink "CityRoadLaw" 90 yX12_force ∈ tb := tb_mem 1765 (by decide +kernel) rfl
set_option maxRecDepth 200000 in
theorem w_784 : Cond.code yX11_why cX11_why 4 (some .int) ∈ tb := tb_mem 784 (by rfl) rfl
set_option maxRecDepth 200000 in
theorem w_782 : Cond.instanceMethod yX11_why ∈ tb := tb_mem 782 (by decide +kernel) rfl
set_option maxRecDepth 200000 in
theorem w_783 : Cond.selects "CityRoad" yX11_why yX11_why ∈ tb := tb_mem 783 (by decide +kernel) rfl
set_option maxRecDepth 200000 in
theorem w_781 : Cond.methodLink "CityRoadLaw" 91 yX11_why ∈ tb := tb_mem 781 (by decide +kernel) rfl
set_option maxRecDepth 200000 in
theorem w_1783 : Cond.code yX12_why cX12_why 4 (some .int) ∈ tb := tb_mem 1783 (by rfl) rfl
set_option maxRecDepth 200000 in
theorem w_1781 : Cond.instanceMethod yX12_why ∈ tb := tb_mem 1781 (by decide +kernel) rfl
set_option maxRecDepth 200000 in
theorem w_1782 : Cond.selects "CityRoadModel" yX12_why yX12_why ∈ tb := tb_mem 1782 (by decide +kernel) rfl
set_option maxRecDepth 200000 in
theorem w_1780 : Cond.methodLink "CityRoadLaw" 94 yX12_why ∈ tb := tb_mem 1780 (by decide +kernel) rfl
set_option maxRecDepth 200000 in
theorem w_789 : Cond.code yX11_line cX11_line 5 (some .int) ∈ tb := tb_mem 789 (by rfl) rfl
set_option maxRecDepth 200000 in
theorem w_787 : Cond.instanceMethod yX11_line ∈ tb := tb_mem 787 (by decide +kernel) rfl
set_option maxRecDepth 200000 in
theorem w_788 : Cond.selects "CityRoad" yX11_line yX11_line ∈ tb := tb_mem 788 (by decide +kernel) rfl
set_option maxRecDepth 200000 in
theorem w_786 : Cond.methodLink "CityRoadLaw" 95 yX11_line ∈ tb := tb_mem 786 (by decide +kernel) rfl
set_option maxRecDepth 200000 in
theorem w_1866 : Cond.code yX12_line cX12_line 12 (some .int) ∈ tb := tb_mem 1866 (by rfl) rfl
set_option maxRecDepth 200000 in
theorem w_1864 : Cond.instanceMethod yX12_line ∈ tb := tb_mem 1864 (by decide +kernel) rfl
set_option maxRecDepth 200000 in
theorem w_1865 : Cond.selects "CityRoadModel" yX12_line yX12_line ∈ tb := tb_mem 1865 (by decide +kernel) rfl
set_option maxRecDepth 200000 in
theorem w_1863 : Cond.methodLink "CityRoadLaw" 98 yX12_line ∈ tb := tb_mem 1863 (by decide +kernel) rfl
set_option maxRecDepth 200000 in
theorem w_881 : Cond.code yX11_ramp cX11_ramp 7 (some .int) ∈ tb := tb_mem 881 (by rfl) rfl
set_option maxRecDepth 200000 in
theorem w_879 : Cond.instanceMethod yX11_ramp ∈ tb := tb_mem 879 (by decide +kernel) rfl
set_option maxRecDepth 200000 in
theorem w_880 : Cond.selects "CityRoad" yX11_ramp yX11_ramp ∈ tb := tb_mem 880 (by decide +kernel) rfl
set_option maxRecDepth 200000 in
theorem w_878 : Cond.methodLink "CityRoadLaw" 99 yX11_ramp ∈ tb := tb_mem 878 (by decide +kernel) rfl
set_option maxRecDepth 200000 in
theorem w_1902 : Cond.code yX12_ramp cX12_ramp 5 (some .int) ∈ tb := tb_mem 1902 (by rfl) rfl
set_option maxRecDepth 200000 in
theorem w_1900 : Cond.instanceMethod yX12_ramp ∈ tb := tb_mem 1900 (by decide +kernel) rfl
set_option maxRecDepth 200000 in
theorem w_1901 : Cond.selects "CityRoadModel" yX12_ramp yX12_ramp ∈ tb := tb_mem 1901 (by decide +kernel) rfl
set_option maxRecDepth 200000 in
theorem w_1899 : Cond.methodLink "CityRoadLaw" 102 yX12_ramp ∈ tb := tb_mem 1899 (by decide +kernel) rfl
set_option maxRecDepth 200000 in
theorem w_910 : Cond.code yX11_cellOf cX11_cellOf 3 (some .int) ∈ tb := tb_mem 910 (by rfl) rfl
set_option maxRecDepth 200000 in
theorem w_908 : Cond.instanceMethod yX11_cellOf ∈ tb := tb_mem 908 (by decide +kernel) rfl
set_option maxRecDepth 200000 in
theorem w_909 : Cond.selects "CityRoad" yX11_cellOf yX11_cellOf ∈ tb := tb_mem 909 (by decide +kernel) rfl
set_option maxRecDepth 200000 in
theorem w_907 : Cond.methodLink "CityRoadLaw" 103 yX11_cellOf ∈ tb := tb_mem 907 (by decide +kernel) rfl
set_option maxRecDepth 200000 in
theorem w_1924 : Cond.code yX12_cellOf cX12_cellOf 4 (some .int) ∈ tb := tb_mem 1924 (by rfl) rfl
set_option maxRecDepth 200000 in
theorem w_1922 : Cond.instanceMethod yX12_cellOf ∈ tb := tb_mem 1922 (by decide +kernel) rfl
set_option maxRecDepth 200000 in
theorem w_1923 : Cond.selects "CityRoadModel" yX12_cellOf yX12_cellOf ∈ tb := tb_mem 1923 (by decide +kernel) rfl
set_option maxRecDepth 200000 in
theorem w_1921 : Cond.methodLink "CityRoadLaw" 106 yX12_cellOf ∈ tb := tb_mem 1921 (by decide +kernel) rfl
set_option maxRecDepth 200000 in
theorem w_918 : Cond.code yX11_show cX11_show 7 (some .int) ∈ tb := tb_mem 918 (by rfl) rfl
set_option maxRecDepth 200000 in
theorem w_916 : Cond.instanceMethod yX11_show ∈ tb := tb_mem 916 (by decide +kernel) rfl
set_option maxRecDepth 200000 in
theorem w_917 : Cond.selects "CityRoad" yX11_show yX11_show ∈ tb := tb_mem 917 (by decide +kernel) rfl
set_option maxRecDepth 200000 in
theorem w_915 : Cond.methodLink "CityRoadLaw" 107 yX11_show ∈ tb := tb_mem 915 (by decide +kernel) rfl
set_option maxRecDepth 200000 in
theorem w_1932 : Cond.code yX12_show cX12_show 8 (some .int) ∈ tb := tb_mem 1932 (by rfl) rfl
set_option maxRecDepth 200000 in
theorem w_1930 : Cond.instanceMethod yX12_show ∈ tb := tb_mem 1930 (by decide +kernel) rfl
set_option maxRecDepth 200000 in
theorem w_1931 : Cond.selects "CityRoadModel" yX12_show yX12_show ∈ tb := tb_mem 1931 (by decide +kernel) rfl
set_option maxRecDepth 200000 in
theorem w_1929 : Cond.methodLink "CityRoadLaw" 110 yX12_show ∈ tb := tb_mem 1929 (by decide +kernel) rfl
set_option maxRecDepth 200000 in
theorem w_958 : Cond.code yX11_take cX11_take 7 (some .int) ∈ tb := tb_mem 958 (by rfl) rfl
set_option maxRecDepth 200000 in
theorem w_956 : Cond.instanceMethod yX11_take ∈ tb := tb_mem 956 (by decide +kernel) rfl
set_option maxRecDepth 200000 in
theorem w_957 : Cond.selects "CityRoad" yX11_take yX11_take ∈ tb := tb_mem 957 (by decide +kernel) rfl
set_option maxRecDepth 200000 in
theorem w_955 : Cond.methodLink "CityRoadLaw" 111 yX11_take ∈ tb := tb_mem 955 (by decide +kernel) rfl
set_option maxRecDepth 200000 in
theorem w_1940 : Cond.code yX12_take cX12_take 6 (some .int) ∈ tb := tb_mem 1940 (by rfl) rfl
set_option maxRecDepth 200000 in
theorem w_1938 : Cond.instanceMethod yX12_take ∈ tb := tb_mem 1938 (by decide +kernel) rfl
set_option maxRecDepth 200000 in
theorem w_1939 : Cond.selects "CityRoadModel" yX12_take yX12_take ∈ tb := tb_mem 1939 (by decide +kernel) rfl
set_option maxRecDepth 200000 in
theorem w_1937 : Cond.methodLink "CityRoadLaw" 114 yX12_take ∈ tb := tb_mem 1937 (by decide +kernel) rfl
set_option maxRecDepth 200000 in
theorem w_978 : Cond.code yX11_moved cX11_moved 6 (some .int) ∈ tb := tb_mem 978 (by rfl) rfl
set_option maxRecDepth 200000 in
theorem w_976 : Cond.instanceMethod yX11_moved ∈ tb := tb_mem 976 (by decide +kernel) rfl
set_option maxRecDepth 200000 in
theorem w_977 : Cond.selects "CityRoad" yX11_moved yX11_moved ∈ tb := tb_mem 977 (by decide +kernel) rfl
set_option maxRecDepth 200000 in
theorem w_975 : Cond.methodLink "CityRoadLaw" 115 yX11_moved ∈ tb := tb_mem 975 (by decide +kernel) rfl
set_option maxRecDepth 200000 in
theorem w_1948 : Cond.code yX12_moved cX12_moved 5 (some .int) ∈ tb := tb_mem 1948 (by rfl) rfl
set_option maxRecDepth 200000 in
theorem w_1946 : Cond.instanceMethod yX12_moved ∈ tb := tb_mem 1946 (by decide +kernel) rfl
set_option maxRecDepth 200000 in
theorem w_1947 : Cond.selects "CityRoadModel" yX12_moved yX12_moved ∈ tb := tb_mem 1947 (by decide +kernel) rfl
set_option maxRecDepth 200000 in
theorem w_1945 : Cond.methodLink "CityRoadLaw" 118 yX12_moved ∈ tb := tb_mem 1945 (by decide +kernel) rfl
set_option maxRecDepth 200000 in
theorem w_998 : Cond.code yX11_grant cX11_grant 4 (some .int) ∈ tb := tb_mem 998 (by rfl) rfl
set_option maxRecDepth 200000 in
theorem w_996 : Cond.instanceMethod yX11_grant ∈ tb := tb_mem 996 (by decide +kernel) rfl
set_option maxRecDepth 200000 in
theorem w_997 : Cond.selects "CityRoad" yX11_grant yX11_grant ∈ tb := tb_mem 997 (by decide +kernel) rfl
set_option maxRecDepth 200000 in
theorem w_995 : Cond.methodLink "CityRoadLaw" 119 yX11_grant ∈ tb := tb_mem 995 (by decide +kernel) rfl
set_option maxRecDepth 200000 in
theorem w_1952 : Cond.code yX12_grant cX12_grant 4 (some .int) ∈ tb := tb_mem 1952 (by rfl) rfl
set_option maxRecDepth 200000 in
theorem w_1950 : Cond.instanceMethod yX12_grant ∈ tb := tb_mem 1950 (by decide +kernel) rfl
set_option maxRecDepth 200000 in
theorem w_1951 : Cond.selects "CityRoadModel" yX12_grant yX12_grant ∈ tb := tb_mem 1951 (by decide +kernel) rfl
set_option maxRecDepth 200000 in
theorem w_1949 : Cond.methodLink "CityRoadLaw" 122 yX12_grant ∈ tb := tb_mem 1949 (by decide +kernel) rfl
theorem gdL_law_264 : decode cL_law 264 = .ok (.aload_n 1, 1) := by decide +kernel
theorem gdL_law_265 : decode cL_law 265 = .ok (.aload_n 0, 1) := by decide +kernel
theorem gdL_law_266 : decode cL_law 266 = .ok (.iload_n 3, 1) := by decide +kernel
theorem gdL_law_267 : decode cL_law 267 = .ok (.iconst 1, 1) := by decide +kernel
theorem gdL_law_268 : decode cL_law 268 = .ok (.iadd, 1) := by decide +kernel
theorem gdL_law_269 : decode cL_law 269 = .ok (.iaload, 1) := by decide +kernel
theorem gdL_law_270 : decode cL_law 270 = .ok (.aload_n 0, 1) := by decide +kernel
theorem gdL_law_271 : decode cL_law 271 = .ok (.iload_n 3, 1) := by decide +kernel
theorem gdL_law_272 : decode cL_law 272 = .ok (.iconst 2, 1) := by decide +kernel
theorem gdL_law_273 : decode cL_law 273 = .ok (.iadd, 1) := by decide +kernel
theorem gdL_law_274 : decode cL_law 274 = .ok (.iaload, 1) := by decide +kernel
theorem gdL_law_275 : decode cL_law 275 = .ok (.invokevirtual 13, 3) := by decide +kernel
theorem gdL_law_278 : decode cL_law 278 = .ok (.pop, 1) := by decide +kernel
theorem gdL_law_279 : decode cL_law 279 = .ok (.aload_n 2, 1) := by decide +kernel
theorem gdL_law_280 : decode cL_law 280 = .ok (.aload_n 0, 1) := by decide +kernel
theorem gdL_law_281 : decode cL_law 281 = .ok (.iload_n 3, 1) := by decide +kernel
theorem gdL_law_282 : decode cL_law 282 = .ok (.iconst 1, 1) := by decide +kernel
theorem gdL_law_283 : decode cL_law 283 = .ok (.iadd, 1) := by decide +kernel
theorem gdL_law_284 : decode cL_law 284 = .ok (.iaload, 1) := by decide +kernel
theorem gdL_law_285 : decode cL_law 285 = .ok (.aload_n 0, 1) := by decide +kernel
theorem gdL_law_286 : decode cL_law 286 = .ok (.iload_n 3, 1) := by decide +kernel
theorem gdL_law_287 : decode cL_law 287 = .ok (.iconst 2, 1) := by decide +kernel
theorem gdL_law_288 : decode cL_law 288 = .ok (.iadd, 1) := by decide +kernel
theorem gdL_law_289 : decode cL_law 289 = .ok (.iaload, 1) := by decide +kernel
theorem gdL_law_290 : decode cL_law 290 = .ok (.invokevirtual 17, 3) := by decide +kernel
theorem gdL_law_293 : decode cL_law 293 = .ok (.pop, 1) := by decide +kernel
theorem gdL_law_294 : decode cL_law 294 = .ok (.goto 1658, 3) := by decide +kernel
theorem gdL_law_297 : decode cL_law 297 = .ok (.aload_n 1, 1) := by decide +kernel
theorem gdL_law_298 : decode cL_law 298 = .ok (.aload_n 0, 1) := by decide +kernel
theorem gdL_law_299 : decode cL_law 299 = .ok (.iload_n 3, 1) := by decide +kernel
theorem gdL_law_300 : decode cL_law 300 = .ok (.iconst 1, 1) := by decide +kernel
theorem gdL_law_301 : decode cL_law 301 = .ok (.iadd, 1) := by decide +kernel
theorem gdL_law_302 : decode cL_law 302 = .ok (.iaload, 1) := by decide +kernel
theorem gdL_law_303 : decode cL_law 303 = .ok (.aload_n 0, 1) := by decide +kernel
theorem gdL_law_304 : decode cL_law 304 = .ok (.iload_n 3, 1) := by decide +kernel
theorem gdL_law_305 : decode cL_law 305 = .ok (.iconst 2, 1) := by decide +kernel
theorem gdL_law_306 : decode cL_law 306 = .ok (.iadd, 1) := by decide +kernel
theorem gdL_law_307 : decode cL_law 307 = .ok (.iaload, 1) := by decide +kernel
theorem gdL_law_308 : decode cL_law 308 = .ok (.aload_n 0, 1) := by decide +kernel
theorem gdL_law_309 : decode cL_law 309 = .ok (.iload_n 3, 1) := by decide +kernel
theorem gdL_law_310 : decode cL_law 310 = .ok (.iconst 3, 1) := by decide +kernel
theorem gdL_law_311 : decode cL_law 311 = .ok (.iadd, 1) := by decide +kernel
theorem gdL_law_312 : decode cL_law 312 = .ok (.iaload, 1) := by decide +kernel
theorem gdL_law_313 : decode cL_law 313 = .ok (.invokevirtual 18, 3) := by decide +kernel
theorem gdL_law_316 : decode cL_law 316 = .ok (.pop, 1) := by decide +kernel
theorem gdL_law_317 : decode cL_law 317 = .ok (.aload_n 2, 1) := by decide +kernel
theorem gdL_law_318 : decode cL_law 318 = .ok (.aload_n 0, 1) := by decide +kernel
theorem gdL_law_319 : decode cL_law 319 = .ok (.iload_n 3, 1) := by decide +kernel
theorem gdL_law_320 : decode cL_law 320 = .ok (.iconst 1, 1) := by decide +kernel
theorem gdL_law_321 : decode cL_law 321 = .ok (.iadd, 1) := by decide +kernel
theorem gdL_law_322 : decode cL_law 322 = .ok (.iaload, 1) := by decide +kernel
theorem gdL_law_323 : decode cL_law 323 = .ok (.aload_n 0, 1) := by decide +kernel
theorem gdL_law_324 : decode cL_law 324 = .ok (.iload_n 3, 1) := by decide +kernel
theorem gdL_law_325 : decode cL_law 325 = .ok (.iconst 2, 1) := by decide +kernel
theorem gdL_law_326 : decode cL_law 326 = .ok (.iadd, 1) := by decide +kernel
theorem gdL_law_327 : decode cL_law 327 = .ok (.iaload, 1) := by decide +kernel
theorem gdL_law_328 : decode cL_law 328 = .ok (.aload_n 0, 1) := by decide +kernel
theorem gdL_law_329 : decode cL_law 329 = .ok (.iload_n 3, 1) := by decide +kernel
theorem gdL_law_330 : decode cL_law 330 = .ok (.iconst 3, 1) := by decide +kernel
theorem gdL_law_331 : decode cL_law 331 = .ok (.iadd, 1) := by decide +kernel
theorem gdL_law_332 : decode cL_law 332 = .ok (.iaload, 1) := by decide +kernel
theorem gdL_law_333 : decode cL_law 333 = .ok (.invokevirtual 22, 3) := by decide +kernel
theorem gdL_law_336 : decode cL_law 336 = .ok (.pop, 1) := by decide +kernel
theorem gdL_law_337 : decode cL_law 337 = .ok (.goto 1615, 3) := by decide +kernel
theorem gdL_law_340 : decode cL_law 340 = .ok (.aload_n 1, 1) := by decide +kernel
theorem gdL_law_341 : decode cL_law 341 = .ok (.aload_n 0, 1) := by decide +kernel
theorem gdL_law_342 : decode cL_law 342 = .ok (.iload_n 3, 1) := by decide +kernel
theorem gdL_law_343 : decode cL_law 343 = .ok (.iconst 1, 1) := by decide +kernel
theorem gdL_law_344 : decode cL_law 344 = .ok (.iadd, 1) := by decide +kernel
theorem gdL_law_345 : decode cL_law 345 = .ok (.iaload, 1) := by decide +kernel
theorem gdL_law_346 : decode cL_law 346 = .ok (.invokevirtual 23, 3) := by decide +kernel
theorem gdL_law_349 : decode cL_law 349 = .ok (.pop, 1) := by decide +kernel
theorem gdL_law_350 : decode cL_law 350 = .ok (.aload_n 2, 1) := by decide +kernel
theorem gdL_law_351 : decode cL_law 351 = .ok (.aload_n 0, 1) := by decide +kernel
theorem gdL_law_352 : decode cL_law 352 = .ok (.iload_n 3, 1) := by decide +kernel
theorem gdL_law_353 : decode cL_law 353 = .ok (.iconst 1, 1) := by decide +kernel
theorem gdL_law_354 : decode cL_law 354 = .ok (.iadd, 1) := by decide +kernel
theorem gdL_law_355 : decode cL_law 355 = .ok (.iaload, 1) := by decide +kernel
theorem gdL_law_356 : decode cL_law 356 = .ok (.invokevirtual 27, 3) := by decide +kernel
theorem gdL_law_359 : decode cL_law 359 = .ok (.pop, 1) := by decide +kernel
theorem gdL_law_360 : decode cL_law 360 = .ok (.goto 1592, 3) := by decide +kernel
theorem gdL_law_363 : decode cL_law 363 = .ok (.aload_n 1, 1) := by decide +kernel
theorem gdL_law_364 : decode cL_law 364 = .ok (.aload_n 0, 1) := by decide +kernel
theorem gdL_law_365 : decode cL_law 365 = .ok (.iload_n 3, 1) := by decide +kernel
theorem gdL_law_366 : decode cL_law 366 = .ok (.iconst 1, 1) := by decide +kernel
theorem gdL_law_367 : decode cL_law 367 = .ok (.iadd, 1) := by decide +kernel
theorem gdL_law_368 : decode cL_law 368 = .ok (.iaload, 1) := by decide +kernel
theorem gdL_law_369 : decode cL_law 369 = .ok (.aload_n 0, 1) := by decide +kernel
theorem gdL_law_370 : decode cL_law 370 = .ok (.iload_n 3, 1) := by decide +kernel
theorem gdL_law_371 : decode cL_law 371 = .ok (.iconst 2, 1) := by decide +kernel
theorem gdL_law_372 : decode cL_law 372 = .ok (.iadd, 1) := by decide +kernel
theorem gdL_law_373 : decode cL_law 373 = .ok (.iaload, 1) := by decide +kernel
theorem gdL_law_374 : decode cL_law 374 = .ok (.aload_n 0, 1) := by decide +kernel
theorem gdL_law_375 : decode cL_law 375 = .ok (.iload_n 3, 1) := by decide +kernel
theorem gdL_law_376 : decode cL_law 376 = .ok (.iconst 3, 1) := by decide +kernel
theorem gdL_law_377 : decode cL_law 377 = .ok (.iadd, 1) := by decide +kernel
theorem gdL_law_378 : decode cL_law 378 = .ok (.iaload, 1) := by decide +kernel
theorem gdL_law_379 : decode cL_law 379 = .ok (.aload_n 0, 1) := by decide +kernel
theorem gdL_law_380 : decode cL_law 380 = .ok (.iload_n 3, 1) := by decide +kernel
theorem gdL_law_381 : decode cL_law 381 = .ok (.iconst 4, 1) := by decide +kernel
theorem gdL_law_382 : decode cL_law 382 = .ok (.iadd, 1) := by decide +kernel
theorem gdL_law_383 : decode cL_law 383 = .ok (.iaload, 1) := by decide +kernel
theorem gdL_law_384 : decode cL_law 384 = .ok (.aload_n 0, 1) := by decide +kernel
theorem gdL_law_385 : decode cL_law 385 = .ok (.iload_n 3, 1) := by decide +kernel
theorem gdL_law_386 : decode cL_law 386 = .ok (.iconst 5, 1) := by decide +kernel
theorem gdL_law_387 : decode cL_law 387 = .ok (.iadd, 1) := by decide +kernel
theorem gdL_law_388 : decode cL_law 388 = .ok (.iaload, 1) := by decide +kernel
theorem gdL_law_389 : decode cL_law 389 = .ok (.invokevirtual 28, 3) := by decide +kernel
theorem gdL_law_392 : decode cL_law 392 = .ok (.pop, 1) := by decide +kernel
theorem gdL_law_393 : decode cL_law 393 = .ok (.aload_n 2, 1) := by decide +kernel
theorem gdL_law_394 : decode cL_law 394 = .ok (.aload_n 0, 1) := by decide +kernel
theorem gdL_law_395 : decode cL_law 395 = .ok (.iload_n 3, 1) := by decide +kernel
theorem gdL_law_396 : decode cL_law 396 = .ok (.iconst 1, 1) := by decide +kernel
theorem gdL_law_397 : decode cL_law 397 = .ok (.iadd, 1) := by decide +kernel
theorem gdL_law_398 : decode cL_law 398 = .ok (.iaload, 1) := by decide +kernel
theorem gdL_law_399 : decode cL_law 399 = .ok (.aload_n 0, 1) := by decide +kernel
theorem gdL_law_400 : decode cL_law 400 = .ok (.iload_n 3, 1) := by decide +kernel
theorem gdL_law_401 : decode cL_law 401 = .ok (.iconst 2, 1) := by decide +kernel
theorem gdL_law_402 : decode cL_law 402 = .ok (.iadd, 1) := by decide +kernel
theorem gdL_law_403 : decode cL_law 403 = .ok (.iaload, 1) := by decide +kernel
theorem gdL_law_404 : decode cL_law 404 = .ok (.aload_n 0, 1) := by decide +kernel
theorem gdL_law_405 : decode cL_law 405 = .ok (.iload_n 3, 1) := by decide +kernel
theorem gdL_law_406 : decode cL_law 406 = .ok (.iconst 3, 1) := by decide +kernel
theorem gdL_law_407 : decode cL_law 407 = .ok (.iadd, 1) := by decide +kernel
theorem gdL_law_408 : decode cL_law 408 = .ok (.iaload, 1) := by decide +kernel
theorem gdL_law_409 : decode cL_law 409 = .ok (.aload_n 0, 1) := by decide +kernel
theorem gdL_law_410 : decode cL_law 410 = .ok (.iload_n 3, 1) := by decide +kernel
theorem gdL_law_411 : decode cL_law 411 = .ok (.iconst 4, 1) := by decide +kernel
theorem gdL_law_412 : decode cL_law 412 = .ok (.iadd, 1) := by decide +kernel
theorem gdL_law_413 : decode cL_law 413 = .ok (.iaload, 1) := by decide +kernel
theorem gdL_law_414 : decode cL_law 414 = .ok (.aload_n 0, 1) := by decide +kernel
theorem gdL_law_415 : decode cL_law 415 = .ok (.iload_n 3, 1) := by decide +kernel
theorem gdL_law_416 : decode cL_law 416 = .ok (.iconst 5, 1) := by decide +kernel
theorem gdL_law_417 : decode cL_law 417 = .ok (.iadd, 1) := by decide +kernel
theorem gdL_law_418 : decode cL_law 418 = .ok (.iaload, 1) := by decide +kernel
theorem gdL_law_419 : decode cL_law 419 = .ok (.invokevirtual 32, 3) := by decide +kernel
theorem gdL_law_422 : decode cL_law 422 = .ok (.pop, 1) := by decide +kernel
theorem gdL_law_423 : decode cL_law 423 = .ok (.goto 1529, 3) := by decide +kernel
theorem gdL_law_426 : decode cL_law 426 = .ok (.aload_n 1, 1) := by decide +kernel
theorem gdL_law_427 : decode cL_law 427 = .ok (.aload_n 0, 1) := by decide +kernel
theorem gdL_law_428 : decode cL_law 428 = .ok (.iload_n 3, 1) := by decide +kernel
theorem gdL_law_429 : decode cL_law 429 = .ok (.iconst 1, 1) := by decide +kernel
theorem gdL_law_430 : decode cL_law 430 = .ok (.iadd, 1) := by decide +kernel
theorem gdL_law_431 : decode cL_law 431 = .ok (.iaload, 1) := by decide +kernel
theorem gdL_law_432 : decode cL_law 432 = .ok (.aload_n 0, 1) := by decide +kernel
theorem gdL_law_433 : decode cL_law 433 = .ok (.iload_n 3, 1) := by decide +kernel
theorem gdL_law_434 : decode cL_law 434 = .ok (.iconst 2, 1) := by decide +kernel
theorem gdL_law_435 : decode cL_law 435 = .ok (.iadd, 1) := by decide +kernel
theorem gdL_law_436 : decode cL_law 436 = .ok (.iaload, 1) := by decide +kernel
theorem gdL_law_437 : decode cL_law 437 = .ok (.invokevirtual 33, 3) := by decide +kernel
theorem gdL_law_440 : decode cL_law 440 = .ok (.pop, 1) := by decide +kernel
theorem gdL_law_441 : decode cL_law 441 = .ok (.aload_n 2, 1) := by decide +kernel
theorem gdL_law_442 : decode cL_law 442 = .ok (.aload_n 0, 1) := by decide +kernel
theorem gdL_law_443 : decode cL_law 443 = .ok (.iload_n 3, 1) := by decide +kernel
theorem gdL_law_444 : decode cL_law 444 = .ok (.iconst 1, 1) := by decide +kernel
theorem gdL_law_445 : decode cL_law 445 = .ok (.iadd, 1) := by decide +kernel
theorem gdL_law_446 : decode cL_law 446 = .ok (.iaload, 1) := by decide +kernel
theorem gdL_law_447 : decode cL_law 447 = .ok (.aload_n 0, 1) := by decide +kernel
theorem gdL_law_448 : decode cL_law 448 = .ok (.iload_n 3, 1) := by decide +kernel
theorem gdL_law_449 : decode cL_law 449 = .ok (.iconst 2, 1) := by decide +kernel
theorem gdL_law_450 : decode cL_law 450 = .ok (.iadd, 1) := by decide +kernel
theorem gdL_law_451 : decode cL_law 451 = .ok (.iaload, 1) := by decide +kernel
theorem gdL_law_452 : decode cL_law 452 = .ok (.invokevirtual 36, 3) := by decide +kernel
theorem gdL_law_455 : decode cL_law 455 = .ok (.pop, 1) := by decide +kernel
theorem gdL_law_456 : decode cL_law 456 = .ok (.goto 1496, 3) := by decide +kernel
theorem gdL_law_459 : decode cL_law 459 = .ok (.aload_n 1, 1) := by decide +kernel
theorem gdL_law_460 : decode cL_law 460 = .ok (.aload_n 0, 1) := by decide +kernel
theorem gdL_law_461 : decode cL_law 461 = .ok (.iload_n 3, 1) := by decide +kernel
theorem gdL_law_462 : decode cL_law 462 = .ok (.iconst 1, 1) := by decide +kernel
theorem gdL_law_463 : decode cL_law 463 = .ok (.iadd, 1) := by decide +kernel
theorem gdL_law_464 : decode cL_law 464 = .ok (.iaload, 1) := by decide +kernel
theorem gdL_law_465 : decode cL_law 465 = .ok (.aload_n 0, 1) := by decide +kernel
theorem gdL_law_466 : decode cL_law 466 = .ok (.iload_n 3, 1) := by decide +kernel
theorem gdL_law_467 : decode cL_law 467 = .ok (.iconst 2, 1) := by decide +kernel
theorem gdL_law_468 : decode cL_law 468 = .ok (.iadd, 1) := by decide +kernel
theorem gdL_law_469 : decode cL_law 469 = .ok (.iaload, 1) := by decide +kernel
theorem gdL_law_470 : decode cL_law 470 = .ok (.aload_n 0, 1) := by decide +kernel
theorem gdL_law_471 : decode cL_law 471 = .ok (.iload_n 3, 1) := by decide +kernel
theorem gdL_law_472 : decode cL_law 472 = .ok (.iconst 3, 1) := by decide +kernel
theorem gdL_law_473 : decode cL_law 473 = .ok (.iadd, 1) := by decide +kernel
theorem gdL_law_474 : decode cL_law 474 = .ok (.iaload, 1) := by decide +kernel
theorem gdL_law_475 : decode cL_law 475 = .ok (.invokevirtual 37, 3) := by decide +kernel
theorem gdL_law_478 : decode cL_law 478 = .ok (.pop, 1) := by decide +kernel
theorem gdL_law_479 : decode cL_law 479 = .ok (.aload_n 2, 1) := by decide +kernel
theorem gdL_law_480 : decode cL_law 480 = .ok (.aload_n 0, 1) := by decide +kernel
theorem gdL_law_481 : decode cL_law 481 = .ok (.iload_n 3, 1) := by decide +kernel
theorem gdL_law_482 : decode cL_law 482 = .ok (.iconst 1, 1) := by decide +kernel
theorem gdL_law_483 : decode cL_law 483 = .ok (.iadd, 1) := by decide +kernel
theorem gdL_law_484 : decode cL_law 484 = .ok (.iaload, 1) := by decide +kernel
theorem gdL_law_485 : decode cL_law 485 = .ok (.aload_n 0, 1) := by decide +kernel
theorem gdL_law_486 : decode cL_law 486 = .ok (.iload_n 3, 1) := by decide +kernel
theorem gdL_law_487 : decode cL_law 487 = .ok (.iconst 2, 1) := by decide +kernel
theorem gdL_law_488 : decode cL_law 488 = .ok (.iadd, 1) := by decide +kernel
theorem gdL_law_489 : decode cL_law 489 = .ok (.iaload, 1) := by decide +kernel
theorem gdL_law_490 : decode cL_law 490 = .ok (.aload_n 0, 1) := by decide +kernel
theorem gdL_law_491 : decode cL_law 491 = .ok (.iload_n 3, 1) := by decide +kernel
theorem gdL_law_492 : decode cL_law 492 = .ok (.iconst 3, 1) := by decide +kernel
theorem gdL_law_493 : decode cL_law 493 = .ok (.iadd, 1) := by decide +kernel
theorem gdL_law_494 : decode cL_law 494 = .ok (.iaload, 1) := by decide +kernel
theorem gdL_law_495 : decode cL_law 495 = .ok (.invokevirtual 40, 3) := by decide +kernel
theorem gdL_law_498 : decode cL_law 498 = .ok (.pop, 1) := by decide +kernel
theorem gdL_law_499 : decode cL_law 499 = .ok (.goto 1453, 3) := by decide +kernel
theorem gdL_law_502 : decode cL_law 502 = .ok (.aload_n 1, 1) := by decide +kernel
theorem gdL_law_503 : decode cL_law 503 = .ok (.aload_n 0, 1) := by decide +kernel
theorem gdL_law_504 : decode cL_law 504 = .ok (.iload_n 3, 1) := by decide +kernel
theorem gdL_law_505 : decode cL_law 505 = .ok (.iconst 1, 1) := by decide +kernel
theorem gdL_law_506 : decode cL_law 506 = .ok (.iadd, 1) := by decide +kernel
theorem gdL_law_507 : decode cL_law 507 = .ok (.iaload, 1) := by decide +kernel
theorem gdL_law_508 : decode cL_law 508 = .ok (.invokevirtual 41, 3) := by decide +kernel
theorem gdL_law_511 : decode cL_law 511 = .ok (.pop, 1) := by decide +kernel
theorem gdL_law_512 : decode cL_law 512 = .ok (.aload_n 2, 1) := by decide +kernel
theorem gdL_law_513 : decode cL_law 513 = .ok (.aload_n 0, 1) := by decide +kernel
theorem gdL_law_514 : decode cL_law 514 = .ok (.iload_n 3, 1) := by decide +kernel
theorem gdL_law_515 : decode cL_law 515 = .ok (.iconst 1, 1) := by decide +kernel
theorem gdL_law_516 : decode cL_law 516 = .ok (.iadd, 1) := by decide +kernel
theorem gdL_law_517 : decode cL_law 517 = .ok (.iaload, 1) := by decide +kernel
theorem gdL_law_518 : decode cL_law 518 = .ok (.invokevirtual 44, 3) := by decide +kernel
theorem gdL_law_521 : decode cL_law 521 = .ok (.pop, 1) := by decide +kernel
theorem gdL_law_522 : decode cL_law 522 = .ok (.goto 1430, 3) := by decide +kernel
theorem gdL_law_525 : decode cL_law 525 = .ok (.aload_n 1, 1) := by decide +kernel
theorem gdL_law_526 : decode cL_law 526 = .ok (.aload_n 0, 1) := by decide +kernel
theorem gdL_law_527 : decode cL_law 527 = .ok (.iload_n 3, 1) := by decide +kernel
theorem gdL_law_528 : decode cL_law 528 = .ok (.iconst 1, 1) := by decide +kernel
theorem gdL_law_529 : decode cL_law 529 = .ok (.iadd, 1) := by decide +kernel
theorem gdL_law_530 : decode cL_law 530 = .ok (.iaload, 1) := by decide +kernel
theorem gdL_law_531 : decode cL_law 531 = .ok (.invokevirtual 45, 3) := by decide +kernel
theorem gdL_law_534 : decode cL_law 534 = .ok (.pop, 1) := by decide +kernel
theorem gdL_law_535 : decode cL_law 535 = .ok (.aload_n 2, 1) := by decide +kernel
theorem gdL_law_536 : decode cL_law 536 = .ok (.aload_n 0, 1) := by decide +kernel
theorem gdL_law_537 : decode cL_law 537 = .ok (.iload_n 3, 1) := by decide +kernel
theorem gdL_law_538 : decode cL_law 538 = .ok (.iconst 1, 1) := by decide +kernel
theorem gdL_law_539 : decode cL_law 539 = .ok (.iadd, 1) := by decide +kernel
theorem gdL_law_540 : decode cL_law 540 = .ok (.iaload, 1) := by decide +kernel
theorem gdL_law_541 : decode cL_law 541 = .ok (.invokevirtual 48, 3) := by decide +kernel
theorem gdL_law_544 : decode cL_law 544 = .ok (.pop, 1) := by decide +kernel
theorem gdL_law_545 : decode cL_law 545 = .ok (.goto 1407, 3) := by decide +kernel
theorem gdL_law_548 : decode cL_law 548 = .ok (.aload_n 1, 1) := by decide +kernel
theorem gdL_law_549 : decode cL_law 549 = .ok (.aload_n 0, 1) := by decide +kernel
theorem gdL_law_550 : decode cL_law 550 = .ok (.iload_n 3, 1) := by decide +kernel
theorem gdL_law_551 : decode cL_law 551 = .ok (.iconst 1, 1) := by decide +kernel
theorem gdL_law_552 : decode cL_law 552 = .ok (.iadd, 1) := by decide +kernel
theorem gdL_law_553 : decode cL_law 553 = .ok (.iaload, 1) := by decide +kernel
theorem gdL_law_554 : decode cL_law 554 = .ok (.aload_n 0, 1) := by decide +kernel
theorem gdL_law_555 : decode cL_law 555 = .ok (.iload_n 3, 1) := by decide +kernel
theorem gdL_law_556 : decode cL_law 556 = .ok (.iconst 2, 1) := by decide +kernel
theorem gdL_law_557 : decode cL_law 557 = .ok (.iadd, 1) := by decide +kernel
theorem gdL_law_558 : decode cL_law 558 = .ok (.iaload, 1) := by decide +kernel
theorem gdL_law_559 : decode cL_law 559 = .ok (.aload_n 0, 1) := by decide +kernel
theorem gdL_law_560 : decode cL_law 560 = .ok (.iload_n 3, 1) := by decide +kernel
theorem gdL_law_561 : decode cL_law 561 = .ok (.iconst 3, 1) := by decide +kernel
theorem gdL_law_562 : decode cL_law 562 = .ok (.iadd, 1) := by decide +kernel
theorem gdL_law_563 : decode cL_law 563 = .ok (.iaload, 1) := by decide +kernel
theorem gdL_law_564 : decode cL_law 564 = .ok (.invokevirtual 49, 3) := by decide +kernel
theorem gdL_law_567 : decode cL_law 567 = .ok (.pop, 1) := by decide +kernel
theorem gdL_law_568 : decode cL_law 568 = .ok (.aload_n 2, 1) := by decide +kernel
theorem gdL_law_569 : decode cL_law 569 = .ok (.aload_n 0, 1) := by decide +kernel
theorem gdL_law_570 : decode cL_law 570 = .ok (.iload_n 3, 1) := by decide +kernel
theorem gdL_law_571 : decode cL_law 571 = .ok (.iconst 1, 1) := by decide +kernel
theorem gdL_law_572 : decode cL_law 572 = .ok (.iadd, 1) := by decide +kernel
theorem gdL_law_573 : decode cL_law 573 = .ok (.iaload, 1) := by decide +kernel
theorem gdL_law_574 : decode cL_law 574 = .ok (.aload_n 0, 1) := by decide +kernel
theorem gdL_law_575 : decode cL_law 575 = .ok (.iload_n 3, 1) := by decide +kernel
theorem gdL_law_576 : decode cL_law 576 = .ok (.iconst 2, 1) := by decide +kernel
theorem gdL_law_577 : decode cL_law 577 = .ok (.iadd, 1) := by decide +kernel
theorem gdL_law_578 : decode cL_law 578 = .ok (.iaload, 1) := by decide +kernel
theorem gdL_law_579 : decode cL_law 579 = .ok (.aload_n 0, 1) := by decide +kernel
theorem gdL_law_580 : decode cL_law 580 = .ok (.iload_n 3, 1) := by decide +kernel
theorem gdL_law_581 : decode cL_law 581 = .ok (.iconst 3, 1) := by decide +kernel
theorem gdL_law_582 : decode cL_law 582 = .ok (.iadd, 1) := by decide +kernel
theorem gdL_law_583 : decode cL_law 583 = .ok (.iaload, 1) := by decide +kernel
theorem gdL_law_584 : decode cL_law 584 = .ok (.invokevirtual 52, 3) := by decide +kernel
theorem gdL_law_587 : decode cL_law 587 = .ok (.pop, 1) := by decide +kernel
theorem gdL_law_588 : decode cL_law 588 = .ok (.goto 1364, 3) := by decide +kernel
theorem gdL_law_591 : decode cL_law 591 = .ok (.aload_n 1, 1) := by decide +kernel
theorem gdL_law_592 : decode cL_law 592 = .ok (.aload_n 0, 1) := by decide +kernel
theorem gdL_law_593 : decode cL_law 593 = .ok (.iload_n 3, 1) := by decide +kernel
theorem gdL_law_594 : decode cL_law 594 = .ok (.iconst 1, 1) := by decide +kernel
theorem gdL_law_595 : decode cL_law 595 = .ok (.iadd, 1) := by decide +kernel
theorem gdL_law_596 : decode cL_law 596 = .ok (.iaload, 1) := by decide +kernel
theorem gdL_law_597 : decode cL_law 597 = .ok (.aload_n 0, 1) := by decide +kernel
theorem gdL_law_598 : decode cL_law 598 = .ok (.iload_n 3, 1) := by decide +kernel
theorem gdL_law_599 : decode cL_law 599 = .ok (.iconst 2, 1) := by decide +kernel
theorem gdL_law_600 : decode cL_law 600 = .ok (.iadd, 1) := by decide +kernel
theorem gdL_law_601 : decode cL_law 601 = .ok (.iaload, 1) := by decide +kernel
theorem gdL_law_602 : decode cL_law 602 = .ok (.aload_n 0, 1) := by decide +kernel
theorem gdL_law_603 : decode cL_law 603 = .ok (.iload_n 3, 1) := by decide +kernel
theorem gdL_law_604 : decode cL_law 604 = .ok (.iconst 3, 1) := by decide +kernel
theorem gdL_law_605 : decode cL_law 605 = .ok (.iadd, 1) := by decide +kernel
theorem gdL_law_606 : decode cL_law 606 = .ok (.iaload, 1) := by decide +kernel
theorem gdL_law_607 : decode cL_law 607 = .ok (.aload_n 0, 1) := by decide +kernel
theorem gdL_law_608 : decode cL_law 608 = .ok (.iload_n 3, 1) := by decide +kernel
theorem gdL_law_609 : decode cL_law 609 = .ok (.iconst 4, 1) := by decide +kernel
theorem gdL_law_610 : decode cL_law 610 = .ok (.iadd, 1) := by decide +kernel
theorem gdL_law_611 : decode cL_law 611 = .ok (.iaload, 1) := by decide +kernel
theorem gdL_law_612 : decode cL_law 612 = .ok (.invokevirtual 53, 3) := by decide +kernel
theorem gdL_law_615 : decode cL_law 615 = .ok (.pop, 1) := by decide +kernel
theorem gdL_law_616 : decode cL_law 616 = .ok (.aload_n 2, 1) := by decide +kernel
theorem gdL_law_617 : decode cL_law 617 = .ok (.aload_n 0, 1) := by decide +kernel
theorem gdL_law_618 : decode cL_law 618 = .ok (.iload_n 3, 1) := by decide +kernel
theorem gdL_law_619 : decode cL_law 619 = .ok (.iconst 1, 1) := by decide +kernel
theorem gdL_law_620 : decode cL_law 620 = .ok (.iadd, 1) := by decide +kernel
theorem gdL_law_621 : decode cL_law 621 = .ok (.iaload, 1) := by decide +kernel
theorem gdL_law_622 : decode cL_law 622 = .ok (.aload_n 0, 1) := by decide +kernel
theorem gdL_law_623 : decode cL_law 623 = .ok (.iload_n 3, 1) := by decide +kernel
theorem gdL_law_624 : decode cL_law 624 = .ok (.iconst 2, 1) := by decide +kernel
theorem gdL_law_625 : decode cL_law 625 = .ok (.iadd, 1) := by decide +kernel
theorem gdL_law_626 : decode cL_law 626 = .ok (.iaload, 1) := by decide +kernel
theorem gdL_law_627 : decode cL_law 627 = .ok (.aload_n 0, 1) := by decide +kernel
theorem gdL_law_628 : decode cL_law 628 = .ok (.iload_n 3, 1) := by decide +kernel
theorem gdL_law_629 : decode cL_law 629 = .ok (.iconst 3, 1) := by decide +kernel
theorem gdL_law_630 : decode cL_law 630 = .ok (.iadd, 1) := by decide +kernel
theorem gdL_law_631 : decode cL_law 631 = .ok (.iaload, 1) := by decide +kernel
theorem gdL_law_632 : decode cL_law 632 = .ok (.aload_n 0, 1) := by decide +kernel
theorem gdL_law_633 : decode cL_law 633 = .ok (.iload_n 3, 1) := by decide +kernel
theorem gdL_law_634 : decode cL_law 634 = .ok (.iconst 4, 1) := by decide +kernel
theorem gdL_law_635 : decode cL_law 635 = .ok (.iadd, 1) := by decide +kernel
theorem gdL_law_636 : decode cL_law 636 = .ok (.iaload, 1) := by decide +kernel
theorem gdL_law_637 : decode cL_law 637 = .ok (.invokevirtual 57, 3) := by decide +kernel
theorem gdL_law_640 : decode cL_law 640 = .ok (.pop, 1) := by decide +kernel
theorem gdL_law_641 : decode cL_law 641 = .ok (.goto 1311, 3) := by decide +kernel
theorem gdL_law_644 : decode cL_law 644 = .ok (.aload_n 1, 1) := by decide +kernel
theorem gdL_law_645 : decode cL_law 645 = .ok (.aload_n 0, 1) := by decide +kernel
theorem gdL_law_646 : decode cL_law 646 = .ok (.iload_n 3, 1) := by decide +kernel
theorem gdL_law_647 : decode cL_law 647 = .ok (.iconst 1, 1) := by decide +kernel
theorem gdL_law_648 : decode cL_law 648 = .ok (.iadd, 1) := by decide +kernel
theorem gdL_law_649 : decode cL_law 649 = .ok (.iaload, 1) := by decide +kernel
theorem gdL_law_650 : decode cL_law 650 = .ok (.aload_n 0, 1) := by decide +kernel
theorem gdL_law_651 : decode cL_law 651 = .ok (.iload_n 3, 1) := by decide +kernel
theorem gdL_law_652 : decode cL_law 652 = .ok (.iconst 2, 1) := by decide +kernel
theorem gdL_law_653 : decode cL_law 653 = .ok (.iadd, 1) := by decide +kernel
theorem gdL_law_654 : decode cL_law 654 = .ok (.iaload, 1) := by decide +kernel
theorem gdL_law_655 : decode cL_law 655 = .ok (.invokevirtual 58, 3) := by decide +kernel
theorem gdL_law_658 : decode cL_law 658 = .ok (.pop, 1) := by decide +kernel
theorem gdL_law_659 : decode cL_law 659 = .ok (.aload_n 2, 1) := by decide +kernel
theorem gdL_law_660 : decode cL_law 660 = .ok (.aload_n 0, 1) := by decide +kernel
theorem gdL_law_661 : decode cL_law 661 = .ok (.iload_n 3, 1) := by decide +kernel
theorem gdL_law_662 : decode cL_law 662 = .ok (.iconst 1, 1) := by decide +kernel
theorem gdL_law_663 : decode cL_law 663 = .ok (.iadd, 1) := by decide +kernel
theorem gdL_law_664 : decode cL_law 664 = .ok (.iaload, 1) := by decide +kernel
theorem gdL_law_665 : decode cL_law 665 = .ok (.aload_n 0, 1) := by decide +kernel
theorem gdL_law_666 : decode cL_law 666 = .ok (.iload_n 3, 1) := by decide +kernel
theorem gdL_law_667 : decode cL_law 667 = .ok (.iconst 2, 1) := by decide +kernel
theorem gdL_law_668 : decode cL_law 668 = .ok (.iadd, 1) := by decide +kernel
theorem gdL_law_669 : decode cL_law 669 = .ok (.iaload, 1) := by decide +kernel
theorem gdL_law_670 : decode cL_law 670 = .ok (.invokevirtual 61, 3) := by decide +kernel
theorem gdL_law_673 : decode cL_law 673 = .ok (.pop, 1) := by decide +kernel
theorem gdL_law_674 : decode cL_law 674 = .ok (.goto 1278, 3) := by decide +kernel
theorem gdL_law_677 : decode cL_law 677 = .ok (.aload_n 1, 1) := by decide +kernel
theorem gdL_law_678 : decode cL_law 678 = .ok (.aload_n 0, 1) := by decide +kernel
theorem gdL_law_679 : decode cL_law 679 = .ok (.iload_n 3, 1) := by decide +kernel
theorem gdL_law_680 : decode cL_law 680 = .ok (.iconst 1, 1) := by decide +kernel
theorem gdL_law_681 : decode cL_law 681 = .ok (.iadd, 1) := by decide +kernel
theorem gdL_law_682 : decode cL_law 682 = .ok (.iaload, 1) := by decide +kernel
theorem gdL_law_683 : decode cL_law 683 = .ok (.aload_n 0, 1) := by decide +kernel
theorem gdL_law_684 : decode cL_law 684 = .ok (.iload_n 3, 1) := by decide +kernel
theorem gdL_law_685 : decode cL_law 685 = .ok (.iconst 2, 1) := by decide +kernel
theorem gdL_law_686 : decode cL_law 686 = .ok (.iadd, 1) := by decide +kernel
theorem gdL_law_687 : decode cL_law 687 = .ok (.iaload, 1) := by decide +kernel
theorem gdL_law_688 : decode cL_law 688 = .ok (.invokevirtual 62, 3) := by decide +kernel
theorem gdL_law_691 : decode cL_law 691 = .ok (.pop, 1) := by decide +kernel
theorem gdL_law_692 : decode cL_law 692 = .ok (.aload_n 2, 1) := by decide +kernel
theorem gdL_law_693 : decode cL_law 693 = .ok (.aload_n 0, 1) := by decide +kernel
theorem gdL_law_694 : decode cL_law 694 = .ok (.iload_n 3, 1) := by decide +kernel
theorem gdL_law_695 : decode cL_law 695 = .ok (.iconst 1, 1) := by decide +kernel
theorem gdL_law_696 : decode cL_law 696 = .ok (.iadd, 1) := by decide +kernel
theorem gdL_law_697 : decode cL_law 697 = .ok (.iaload, 1) := by decide +kernel
theorem gdL_law_698 : decode cL_law 698 = .ok (.aload_n 0, 1) := by decide +kernel
theorem gdL_law_699 : decode cL_law 699 = .ok (.iload_n 3, 1) := by decide +kernel
theorem gdL_law_700 : decode cL_law 700 = .ok (.iconst 2, 1) := by decide +kernel
theorem gdL_law_701 : decode cL_law 701 = .ok (.iadd, 1) := by decide +kernel
theorem gdL_law_702 : decode cL_law 702 = .ok (.iaload, 1) := by decide +kernel
theorem gdL_law_703 : decode cL_law 703 = .ok (.invokevirtual 65, 3) := by decide +kernel
theorem gdL_law_706 : decode cL_law 706 = .ok (.pop, 1) := by decide +kernel
theorem gdL_law_707 : decode cL_law 707 = .ok (.goto 1245, 3) := by decide +kernel
theorem gdL_law_710 : decode cL_law 710 = .ok (.aload_n 1, 1) := by decide +kernel
theorem gdL_law_711 : decode cL_law 711 = .ok (.aload_n 0, 1) := by decide +kernel
theorem gdL_law_712 : decode cL_law 712 = .ok (.iload_n 3, 1) := by decide +kernel
theorem gdL_law_713 : decode cL_law 713 = .ok (.iconst 1, 1) := by decide +kernel
theorem gdL_law_714 : decode cL_law 714 = .ok (.iadd, 1) := by decide +kernel
theorem gdL_law_715 : decode cL_law 715 = .ok (.iaload, 1) := by decide +kernel
theorem gdL_law_716 : decode cL_law 716 = .ok (.aload_n 0, 1) := by decide +kernel
theorem gdL_law_717 : decode cL_law 717 = .ok (.iload_n 3, 1) := by decide +kernel
theorem gdL_law_718 : decode cL_law 718 = .ok (.iconst 2, 1) := by decide +kernel
theorem gdL_law_719 : decode cL_law 719 = .ok (.iadd, 1) := by decide +kernel
theorem gdL_law_720 : decode cL_law 720 = .ok (.iaload, 1) := by decide +kernel
theorem gdL_law_721 : decode cL_law 721 = .ok (.invokevirtual 66, 3) := by decide +kernel
theorem gdL_law_724 : decode cL_law 724 = .ok (.pop, 1) := by decide +kernel
theorem gdL_law_725 : decode cL_law 725 = .ok (.aload_n 2, 1) := by decide +kernel
theorem gdL_law_726 : decode cL_law 726 = .ok (.aload_n 0, 1) := by decide +kernel
theorem gdL_law_727 : decode cL_law 727 = .ok (.iload_n 3, 1) := by decide +kernel
theorem gdL_law_728 : decode cL_law 728 = .ok (.iconst 1, 1) := by decide +kernel
theorem gdL_law_729 : decode cL_law 729 = .ok (.iadd, 1) := by decide +kernel
theorem gdL_law_730 : decode cL_law 730 = .ok (.iaload, 1) := by decide +kernel
theorem gdL_law_731 : decode cL_law 731 = .ok (.aload_n 0, 1) := by decide +kernel
theorem gdL_law_732 : decode cL_law 732 = .ok (.iload_n 3, 1) := by decide +kernel
theorem gdL_law_733 : decode cL_law 733 = .ok (.iconst 2, 1) := by decide +kernel
theorem gdL_law_734 : decode cL_law 734 = .ok (.iadd, 1) := by decide +kernel
theorem gdL_law_735 : decode cL_law 735 = .ok (.iaload, 1) := by decide +kernel
theorem gdL_law_736 : decode cL_law 736 = .ok (.invokevirtual 69, 3) := by decide +kernel
theorem gdL_law_739 : decode cL_law 739 = .ok (.pop, 1) := by decide +kernel
theorem gdL_law_740 : decode cL_law 740 = .ok (.goto 1212, 3) := by decide +kernel
theorem gdL_law_743 : decode cL_law 743 = .ok (.aload_n 1, 1) := by decide +kernel
theorem gdL_law_744 : decode cL_law 744 = .ok (.aload_n 0, 1) := by decide +kernel
theorem gdL_law_745 : decode cL_law 745 = .ok (.iload_n 3, 1) := by decide +kernel
theorem gdL_law_746 : decode cL_law 746 = .ok (.iconst 1, 1) := by decide +kernel
theorem gdL_law_747 : decode cL_law 747 = .ok (.iadd, 1) := by decide +kernel
theorem gdL_law_748 : decode cL_law 748 = .ok (.iaload, 1) := by decide +kernel
theorem gdL_law_749 : decode cL_law 749 = .ok (.aload_n 0, 1) := by decide +kernel
theorem gdL_law_750 : decode cL_law 750 = .ok (.iload_n 3, 1) := by decide +kernel
theorem gdL_law_751 : decode cL_law 751 = .ok (.iconst 2, 1) := by decide +kernel
theorem gdL_law_752 : decode cL_law 752 = .ok (.iadd, 1) := by decide +kernel
theorem gdL_law_753 : decode cL_law 753 = .ok (.iaload, 1) := by decide +kernel
theorem gdL_law_754 : decode cL_law 754 = .ok (.aload_n 0, 1) := by decide +kernel
theorem gdL_law_755 : decode cL_law 755 = .ok (.iload_n 3, 1) := by decide +kernel
theorem gdL_law_756 : decode cL_law 756 = .ok (.iconst 3, 1) := by decide +kernel
theorem gdL_law_757 : decode cL_law 757 = .ok (.iadd, 1) := by decide +kernel
theorem gdL_law_758 : decode cL_law 758 = .ok (.iaload, 1) := by decide +kernel
theorem gdL_law_759 : decode cL_law 759 = .ok (.ifCond .eq 7, 3) := by decide +kernel
theorem gdL_law_766 : decode cL_law 766 = .ok (.iconst 0, 1) := by decide +kernel
theorem gdL_law_767 : decode cL_law 767 = .ok (.aload_n 0, 1) := by decide +kernel
theorem gdL_law_768 : decode cL_law 768 = .ok (.iload_n 3, 1) := by decide +kernel
theorem gdL_law_769 : decode cL_law 769 = .ok (.iconst 4, 1) := by decide +kernel
theorem gdL_law_770 : decode cL_law 770 = .ok (.iadd, 1) := by decide +kernel
theorem gdL_law_771 : decode cL_law 771 = .ok (.iaload, 1) := by decide +kernel
theorem gdL_law_772 : decode cL_law 772 = .ok (.invokevirtual 70, 3) := by decide +kernel
theorem gdL_law_775 : decode cL_law 775 = .ok (.pop, 1) := by decide +kernel
theorem gdL_law_776 : decode cL_law 776 = .ok (.aload_n 2, 1) := by decide +kernel
theorem gdL_law_777 : decode cL_law 777 = .ok (.aload_n 0, 1) := by decide +kernel
theorem gdL_law_778 : decode cL_law 778 = .ok (.iload_n 3, 1) := by decide +kernel
theorem gdL_law_779 : decode cL_law 779 = .ok (.iconst 1, 1) := by decide +kernel
theorem gdL_law_780 : decode cL_law 780 = .ok (.iadd, 1) := by decide +kernel
theorem gdL_law_781 : decode cL_law 781 = .ok (.iaload, 1) := by decide +kernel
theorem gdL_law_782 : decode cL_law 782 = .ok (.aload_n 0, 1) := by decide +kernel
theorem gdL_law_783 : decode cL_law 783 = .ok (.iload_n 3, 1) := by decide +kernel
theorem gdL_law_784 : decode cL_law 784 = .ok (.iconst 2, 1) := by decide +kernel
theorem gdL_law_785 : decode cL_law 785 = .ok (.iadd, 1) := by decide +kernel
theorem gdL_law_786 : decode cL_law 786 = .ok (.iaload, 1) := by decide +kernel
theorem gdL_law_787 : decode cL_law 787 = .ok (.aload_n 0, 1) := by decide +kernel
theorem gdL_law_788 : decode cL_law 788 = .ok (.iload_n 3, 1) := by decide +kernel
theorem gdL_law_789 : decode cL_law 789 = .ok (.iconst 3, 1) := by decide +kernel
theorem gdL_law_790 : decode cL_law 790 = .ok (.iadd, 1) := by decide +kernel
theorem gdL_law_791 : decode cL_law 791 = .ok (.iaload, 1) := by decide +kernel
theorem gdL_law_792 : decode cL_law 792 = .ok (.ifCond .eq 7, 3) := by decide +kernel
theorem gdL_law_799 : decode cL_law 799 = .ok (.iconst 0, 1) := by decide +kernel
theorem gdL_law_800 : decode cL_law 800 = .ok (.aload_n 0, 1) := by decide +kernel
theorem gdL_law_801 : decode cL_law 801 = .ok (.iload_n 3, 1) := by decide +kernel
theorem gdL_law_802 : decode cL_law 802 = .ok (.iconst 4, 1) := by decide +kernel
theorem gdL_law_803 : decode cL_law 803 = .ok (.iadd, 1) := by decide +kernel
theorem gdL_law_804 : decode cL_law 804 = .ok (.iaload, 1) := by decide +kernel
theorem gdL_law_805 : decode cL_law 805 = .ok (.invokevirtual 74, 3) := by decide +kernel
theorem gdL_law_808 : decode cL_law 808 = .ok (.pop, 1) := by decide +kernel
theorem gdL_law_809 : decode cL_law 809 = .ok (.goto 1143, 3) := by decide +kernel
theorem gdL_law_795 : decode cL_law 795 = .ok (.iconst 1, 1) := by decide +kernel
theorem gdL_law_796 : decode cL_law 796 = .ok (.goto 4, 3) := by decide +kernel
theorem gdL_law_762 : decode cL_law 762 = .ok (.iconst 1, 1) := by decide +kernel
theorem gdL_law_763 : decode cL_law 763 = .ok (.goto 4, 3) := by decide +kernel
theorem gdL_law_812 : decode cL_law 812 = .ok (.aload_n 1, 1) := by decide +kernel
theorem gdL_law_813 : decode cL_law 813 = .ok (.aload_n 0, 1) := by decide +kernel
theorem gdL_law_814 : decode cL_law 814 = .ok (.iload_n 3, 1) := by decide +kernel
theorem gdL_law_815 : decode cL_law 815 = .ok (.iconst 1, 1) := by decide +kernel
theorem gdL_law_816 : decode cL_law 816 = .ok (.iadd, 1) := by decide +kernel
theorem gdL_law_817 : decode cL_law 817 = .ok (.iaload, 1) := by decide +kernel
theorem gdL_law_818 : decode cL_law 818 = .ok (.aload_n 0, 1) := by decide +kernel
theorem gdL_law_819 : decode cL_law 819 = .ok (.iload_n 3, 1) := by decide +kernel
theorem gdL_law_820 : decode cL_law 820 = .ok (.iconst 2, 1) := by decide +kernel
theorem gdL_law_821 : decode cL_law 821 = .ok (.iadd, 1) := by decide +kernel
theorem gdL_law_822 : decode cL_law 822 = .ok (.iaload, 1) := by decide +kernel
theorem gdL_law_823 : decode cL_law 823 = .ok (.invokevirtual 75, 3) := by decide +kernel
theorem gdL_law_826 : decode cL_law 826 = .ok (.pop, 1) := by decide +kernel
theorem gdL_law_827 : decode cL_law 827 = .ok (.aload_n 2, 1) := by decide +kernel
theorem gdL_law_828 : decode cL_law 828 = .ok (.aload_n 0, 1) := by decide +kernel
theorem gdL_law_829 : decode cL_law 829 = .ok (.iload_n 3, 1) := by decide +kernel
theorem gdL_law_830 : decode cL_law 830 = .ok (.iconst 1, 1) := by decide +kernel
theorem gdL_law_831 : decode cL_law 831 = .ok (.iadd, 1) := by decide +kernel
theorem gdL_law_832 : decode cL_law 832 = .ok (.iaload, 1) := by decide +kernel
theorem gdL_law_833 : decode cL_law 833 = .ok (.aload_n 0, 1) := by decide +kernel
theorem gdL_law_834 : decode cL_law 834 = .ok (.iload_n 3, 1) := by decide +kernel
theorem gdL_law_835 : decode cL_law 835 = .ok (.iconst 2, 1) := by decide +kernel
theorem gdL_law_836 : decode cL_law 836 = .ok (.iadd, 1) := by decide +kernel
theorem gdL_law_837 : decode cL_law 837 = .ok (.iaload, 1) := by decide +kernel
theorem gdL_law_838 : decode cL_law 838 = .ok (.invokevirtual 78, 3) := by decide +kernel
theorem gdL_law_841 : decode cL_law 841 = .ok (.pop, 1) := by decide +kernel
theorem gdL_law_842 : decode cL_law 842 = .ok (.goto 1110, 3) := by decide +kernel
theorem gdL_law_845 : decode cL_law 845 = .ok (.aload_n 1, 1) := by decide +kernel
theorem gdL_law_846 : decode cL_law 846 = .ok (.aload_n 0, 1) := by decide +kernel
theorem gdL_law_847 : decode cL_law 847 = .ok (.iload_n 3, 1) := by decide +kernel
theorem gdL_law_848 : decode cL_law 848 = .ok (.iconst 1, 1) := by decide +kernel
theorem gdL_law_849 : decode cL_law 849 = .ok (.iadd, 1) := by decide +kernel
theorem gdL_law_850 : decode cL_law 850 = .ok (.iaload, 1) := by decide +kernel
theorem gdL_law_851 : decode cL_law 851 = .ok (.invokevirtual 79, 3) := by decide +kernel
theorem gdL_law_854 : decode cL_law 854 = .ok (.pop, 1) := by decide +kernel
theorem gdL_law_855 : decode cL_law 855 = .ok (.aload_n 2, 1) := by decide +kernel
theorem gdL_law_856 : decode cL_law 856 = .ok (.aload_n 0, 1) := by decide +kernel
theorem gdL_law_857 : decode cL_law 857 = .ok (.iload_n 3, 1) := by decide +kernel
theorem gdL_law_858 : decode cL_law 858 = .ok (.iconst 1, 1) := by decide +kernel
theorem gdL_law_859 : decode cL_law 859 = .ok (.iadd, 1) := by decide +kernel
theorem gdL_law_860 : decode cL_law 860 = .ok (.iaload, 1) := by decide +kernel
theorem gdL_law_861 : decode cL_law 861 = .ok (.invokevirtual 82, 3) := by decide +kernel
theorem gdL_law_864 : decode cL_law 864 = .ok (.pop, 1) := by decide +kernel
theorem gdL_law_865 : decode cL_law 865 = .ok (.goto 1087, 3) := by decide +kernel
theorem gdL_law_868 : decode cL_law 868 = .ok (.aload_n 1, 1) := by decide +kernel
theorem gdL_law_869 : decode cL_law 869 = .ok (.aload_n 0, 1) := by decide +kernel
theorem gdL_law_870 : decode cL_law 870 = .ok (.iload_n 3, 1) := by decide +kernel
theorem gdL_law_871 : decode cL_law 871 = .ok (.iconst 1, 1) := by decide +kernel
theorem gdL_law_872 : decode cL_law 872 = .ok (.iadd, 1) := by decide +kernel
theorem gdL_law_873 : decode cL_law 873 = .ok (.iaload, 1) := by decide +kernel
theorem gdL_law_874 : decode cL_law 874 = .ok (.aload_n 0, 1) := by decide +kernel
theorem gdL_law_875 : decode cL_law 875 = .ok (.iload_n 3, 1) := by decide +kernel
theorem gdL_law_876 : decode cL_law 876 = .ok (.iconst 2, 1) := by decide +kernel
theorem gdL_law_877 : decode cL_law 877 = .ok (.iadd, 1) := by decide +kernel
theorem gdL_law_878 : decode cL_law 878 = .ok (.iaload, 1) := by decide +kernel
theorem gdL_law_879 : decode cL_law 879 = .ok (.invokevirtual 83, 3) := by decide +kernel
theorem gdL_law_882 : decode cL_law 882 = .ok (.pop, 1) := by decide +kernel
theorem gdL_law_883 : decode cL_law 883 = .ok (.aload_n 2, 1) := by decide +kernel
theorem gdL_law_884 : decode cL_law 884 = .ok (.aload_n 0, 1) := by decide +kernel
theorem gdL_law_885 : decode cL_law 885 = .ok (.iload_n 3, 1) := by decide +kernel
theorem gdL_law_886 : decode cL_law 886 = .ok (.iconst 1, 1) := by decide +kernel
theorem gdL_law_887 : decode cL_law 887 = .ok (.iadd, 1) := by decide +kernel
theorem gdL_law_888 : decode cL_law 888 = .ok (.iaload, 1) := by decide +kernel
theorem gdL_law_889 : decode cL_law 889 = .ok (.aload_n 0, 1) := by decide +kernel
theorem gdL_law_890 : decode cL_law 890 = .ok (.iload_n 3, 1) := by decide +kernel
theorem gdL_law_891 : decode cL_law 891 = .ok (.iconst 2, 1) := by decide +kernel
theorem gdL_law_892 : decode cL_law 892 = .ok (.iadd, 1) := by decide +kernel
theorem gdL_law_893 : decode cL_law 893 = .ok (.iaload, 1) := by decide +kernel
theorem gdL_law_894 : decode cL_law 894 = .ok (.invokevirtual 86, 3) := by decide +kernel
theorem gdL_law_897 : decode cL_law 897 = .ok (.pop, 1) := by decide +kernel
theorem gdL_law_898 : decode cL_law 898 = .ok (.goto 1054, 3) := by decide +kernel
theorem gdL_law_901 : decode cL_law 901 = .ok (.aload_n 1, 1) := by decide +kernel
theorem gdL_law_902 : decode cL_law 902 = .ok (.aload_n 0, 1) := by decide +kernel
theorem gdL_law_903 : decode cL_law 903 = .ok (.iload_n 3, 1) := by decide +kernel
theorem gdL_law_904 : decode cL_law 904 = .ok (.iconst 1, 1) := by decide +kernel
theorem gdL_law_905 : decode cL_law 905 = .ok (.iadd, 1) := by decide +kernel
theorem gdL_law_906 : decode cL_law 906 = .ok (.iaload, 1) := by decide +kernel
theorem gdL_law_907 : decode cL_law 907 = .ok (.aload_n 0, 1) := by decide +kernel
theorem gdL_law_908 : decode cL_law 908 = .ok (.iload_n 3, 1) := by decide +kernel
theorem gdL_law_909 : decode cL_law 909 = .ok (.iconst 2, 1) := by decide +kernel
theorem gdL_law_910 : decode cL_law 910 = .ok (.iadd, 1) := by decide +kernel
theorem gdL_law_911 : decode cL_law 911 = .ok (.iaload, 1) := by decide +kernel
theorem gdL_law_912 : decode cL_law 912 = .ok (.aload_n 0, 1) := by decide +kernel
theorem gdL_law_913 : decode cL_law 913 = .ok (.iload_n 3, 1) := by decide +kernel
theorem gdL_law_914 : decode cL_law 914 = .ok (.iconst 3, 1) := by decide +kernel
theorem gdL_law_915 : decode cL_law 915 = .ok (.iadd, 1) := by decide +kernel
theorem gdL_law_916 : decode cL_law 916 = .ok (.iaload, 1) := by decide +kernel
theorem gdL_law_917 : decode cL_law 917 = .ok (.invokevirtual 87, 3) := by decide +kernel
theorem gdL_law_920 : decode cL_law 920 = .ok (.pop, 1) := by decide +kernel
theorem gdL_law_921 : decode cL_law 921 = .ok (.aload_n 2, 1) := by decide +kernel
theorem gdL_law_922 : decode cL_law 922 = .ok (.aload_n 0, 1) := by decide +kernel
theorem gdL_law_923 : decode cL_law 923 = .ok (.iload_n 3, 1) := by decide +kernel
theorem gdL_law_924 : decode cL_law 924 = .ok (.iconst 1, 1) := by decide +kernel
theorem gdL_law_925 : decode cL_law 925 = .ok (.iadd, 1) := by decide +kernel
theorem gdL_law_926 : decode cL_law 926 = .ok (.iaload, 1) := by decide +kernel
theorem gdL_law_927 : decode cL_law 927 = .ok (.aload_n 0, 1) := by decide +kernel
theorem gdL_law_928 : decode cL_law 928 = .ok (.iload_n 3, 1) := by decide +kernel
theorem gdL_law_929 : decode cL_law 929 = .ok (.iconst 2, 1) := by decide +kernel
theorem gdL_law_930 : decode cL_law 930 = .ok (.iadd, 1) := by decide +kernel
theorem gdL_law_931 : decode cL_law 931 = .ok (.iaload, 1) := by decide +kernel
theorem gdL_law_932 : decode cL_law 932 = .ok (.aload_n 0, 1) := by decide +kernel
theorem gdL_law_933 : decode cL_law 933 = .ok (.iload_n 3, 1) := by decide +kernel
theorem gdL_law_934 : decode cL_law 934 = .ok (.iconst 3, 1) := by decide +kernel
theorem gdL_law_935 : decode cL_law 935 = .ok (.iadd, 1) := by decide +kernel
theorem gdL_law_936 : decode cL_law 936 = .ok (.iaload, 1) := by decide +kernel
theorem gdL_law_937 : decode cL_law 937 = .ok (.invokevirtual 90, 3) := by decide +kernel
theorem gdL_law_940 : decode cL_law 940 = .ok (.pop, 1) := by decide +kernel
theorem gdL_law_941 : decode cL_law 941 = .ok (.goto 1011, 3) := by decide +kernel
theorem gdL_law_944 : decode cL_law 944 = .ok (.aload_n 1, 1) := by decide +kernel
theorem gdL_law_945 : decode cL_law 945 = .ok (.aload_n 0, 1) := by decide +kernel
theorem gdL_law_946 : decode cL_law 946 = .ok (.iload_n 3, 1) := by decide +kernel
theorem gdL_law_947 : decode cL_law 947 = .ok (.iconst 1, 1) := by decide +kernel
theorem gdL_law_948 : decode cL_law 948 = .ok (.iadd, 1) := by decide +kernel
theorem gdL_law_949 : decode cL_law 949 = .ok (.iaload, 1) := by decide +kernel
theorem gdL_law_950 : decode cL_law 950 = .ok (.aload_n 0, 1) := by decide +kernel
theorem gdL_law_951 : decode cL_law 951 = .ok (.iload_n 3, 1) := by decide +kernel
theorem gdL_law_952 : decode cL_law 952 = .ok (.iconst 2, 1) := by decide +kernel
theorem gdL_law_953 : decode cL_law 953 = .ok (.iadd, 1) := by decide +kernel
theorem gdL_law_954 : decode cL_law 954 = .ok (.iaload, 1) := by decide +kernel
theorem gdL_law_955 : decode cL_law 955 = .ok (.aload_n 0, 1) := by decide +kernel
theorem gdL_law_956 : decode cL_law 956 = .ok (.iload_n 3, 1) := by decide +kernel
theorem gdL_law_957 : decode cL_law 957 = .ok (.iconst 3, 1) := by decide +kernel
theorem gdL_law_958 : decode cL_law 958 = .ok (.iadd, 1) := by decide +kernel
theorem gdL_law_959 : decode cL_law 959 = .ok (.iaload, 1) := by decide +kernel
theorem gdL_law_960 : decode cL_law 960 = .ok (.invokevirtual 91, 3) := by decide +kernel
theorem gdL_law_963 : decode cL_law 963 = .ok (.pop, 1) := by decide +kernel
theorem gdL_law_964 : decode cL_law 964 = .ok (.aload_n 2, 1) := by decide +kernel
theorem gdL_law_965 : decode cL_law 965 = .ok (.aload_n 0, 1) := by decide +kernel
theorem gdL_law_966 : decode cL_law 966 = .ok (.iload_n 3, 1) := by decide +kernel
theorem gdL_law_967 : decode cL_law 967 = .ok (.iconst 1, 1) := by decide +kernel
theorem gdL_law_968 : decode cL_law 968 = .ok (.iadd, 1) := by decide +kernel
theorem gdL_law_969 : decode cL_law 969 = .ok (.iaload, 1) := by decide +kernel
theorem gdL_law_970 : decode cL_law 970 = .ok (.aload_n 0, 1) := by decide +kernel
theorem gdL_law_971 : decode cL_law 971 = .ok (.iload_n 3, 1) := by decide +kernel
theorem gdL_law_972 : decode cL_law 972 = .ok (.iconst 2, 1) := by decide +kernel
theorem gdL_law_973 : decode cL_law 973 = .ok (.iadd, 1) := by decide +kernel
theorem gdL_law_974 : decode cL_law 974 = .ok (.iaload, 1) := by decide +kernel
theorem gdL_law_975 : decode cL_law 975 = .ok (.aload_n 0, 1) := by decide +kernel
theorem gdL_law_976 : decode cL_law 976 = .ok (.iload_n 3, 1) := by decide +kernel
theorem gdL_law_977 : decode cL_law 977 = .ok (.iconst 3, 1) := by decide +kernel
theorem gdL_law_978 : decode cL_law 978 = .ok (.iadd, 1) := by decide +kernel
theorem gdL_law_979 : decode cL_law 979 = .ok (.iaload, 1) := by decide +kernel
theorem gdL_law_980 : decode cL_law 980 = .ok (.invokevirtual 94, 3) := by decide +kernel
theorem gdL_law_983 : decode cL_law 983 = .ok (.pop, 1) := by decide +kernel
theorem gdL_law_984 : decode cL_law 984 = .ok (.goto 968, 3) := by decide +kernel
theorem gdL_law_987 : decode cL_law 987 = .ok (.aload_n 1, 1) := by decide +kernel
theorem gdL_law_988 : decode cL_law 988 = .ok (.aload_n 0, 1) := by decide +kernel
theorem gdL_law_989 : decode cL_law 989 = .ok (.iload_n 3, 1) := by decide +kernel
theorem gdL_law_990 : decode cL_law 990 = .ok (.iconst 1, 1) := by decide +kernel
theorem gdL_law_991 : decode cL_law 991 = .ok (.iadd, 1) := by decide +kernel
theorem gdL_law_992 : decode cL_law 992 = .ok (.iaload, 1) := by decide +kernel
theorem gdL_law_993 : decode cL_law 993 = .ok (.aload_n 0, 1) := by decide +kernel
theorem gdL_law_994 : decode cL_law 994 = .ok (.iload_n 3, 1) := by decide +kernel
theorem gdL_law_995 : decode cL_law 995 = .ok (.iconst 2, 1) := by decide +kernel
theorem gdL_law_996 : decode cL_law 996 = .ok (.iadd, 1) := by decide +kernel
theorem gdL_law_997 : decode cL_law 997 = .ok (.iaload, 1) := by decide +kernel
theorem gdL_law_998 : decode cL_law 998 = .ok (.aload_n 0, 1) := by decide +kernel
theorem gdL_law_999 : decode cL_law 999 = .ok (.iload_n 3, 1) := by decide +kernel
theorem gdL_law_1000 : decode cL_law 1000 = .ok (.iconst 3, 1) := by decide +kernel
theorem gdL_law_1001 : decode cL_law 1001 = .ok (.iadd, 1) := by decide +kernel
theorem gdL_law_1002 : decode cL_law 1002 = .ok (.iaload, 1) := by decide +kernel
theorem gdL_law_1003 : decode cL_law 1003 = .ok (.invokevirtual 95, 3) := by decide +kernel
theorem gdL_law_1006 : decode cL_law 1006 = .ok (.pop, 1) := by decide +kernel
theorem gdL_law_1007 : decode cL_law 1007 = .ok (.aload_n 2, 1) := by decide +kernel
theorem gdL_law_1008 : decode cL_law 1008 = .ok (.aload_n 0, 1) := by decide +kernel
theorem gdL_law_1009 : decode cL_law 1009 = .ok (.iload_n 3, 1) := by decide +kernel
theorem gdL_law_1010 : decode cL_law 1010 = .ok (.iconst 1, 1) := by decide +kernel
theorem gdL_law_1011 : decode cL_law 1011 = .ok (.iadd, 1) := by decide +kernel
theorem gdL_law_1012 : decode cL_law 1012 = .ok (.iaload, 1) := by decide +kernel
theorem gdL_law_1013 : decode cL_law 1013 = .ok (.aload_n 0, 1) := by decide +kernel
theorem gdL_law_1014 : decode cL_law 1014 = .ok (.iload_n 3, 1) := by decide +kernel
theorem gdL_law_1015 : decode cL_law 1015 = .ok (.iconst 2, 1) := by decide +kernel
theorem gdL_law_1016 : decode cL_law 1016 = .ok (.iadd, 1) := by decide +kernel
theorem gdL_law_1017 : decode cL_law 1017 = .ok (.iaload, 1) := by decide +kernel
theorem gdL_law_1018 : decode cL_law 1018 = .ok (.aload_n 0, 1) := by decide +kernel
theorem gdL_law_1019 : decode cL_law 1019 = .ok (.iload_n 3, 1) := by decide +kernel
theorem gdL_law_1020 : decode cL_law 1020 = .ok (.iconst 3, 1) := by decide +kernel
theorem gdL_law_1021 : decode cL_law 1021 = .ok (.iadd, 1) := by decide +kernel
theorem gdL_law_1022 : decode cL_law 1022 = .ok (.iaload, 1) := by decide +kernel
theorem gdL_law_1023 : decode cL_law 1023 = .ok (.invokevirtual 98, 3) := by decide +kernel
theorem gdL_law_1026 : decode cL_law 1026 = .ok (.pop, 1) := by decide +kernel
theorem gdL_law_1027 : decode cL_law 1027 = .ok (.goto 925, 3) := by decide +kernel
theorem gdL_law_1030 : decode cL_law 1030 = .ok (.aload_n 1, 1) := by decide +kernel
theorem gdL_law_1031 : decode cL_law 1031 = .ok (.aload_n 0, 1) := by decide +kernel
theorem gdL_law_1032 : decode cL_law 1032 = .ok (.iload_n 3, 1) := by decide +kernel
theorem gdL_law_1033 : decode cL_law 1033 = .ok (.iconst 1, 1) := by decide +kernel
theorem gdL_law_1034 : decode cL_law 1034 = .ok (.iadd, 1) := by decide +kernel
theorem gdL_law_1035 : decode cL_law 1035 = .ok (.iaload, 1) := by decide +kernel
theorem gdL_law_1036 : decode cL_law 1036 = .ok (.aload_n 0, 1) := by decide +kernel
theorem gdL_law_1037 : decode cL_law 1037 = .ok (.iload_n 3, 1) := by decide +kernel
theorem gdL_law_1038 : decode cL_law 1038 = .ok (.iconst 2, 1) := by decide +kernel
theorem gdL_law_1039 : decode cL_law 1039 = .ok (.iadd, 1) := by decide +kernel
theorem gdL_law_1040 : decode cL_law 1040 = .ok (.iaload, 1) := by decide +kernel
theorem gdL_law_1041 : decode cL_law 1041 = .ok (.invokevirtual 99, 3) := by decide +kernel
theorem gdL_law_1044 : decode cL_law 1044 = .ok (.pop, 1) := by decide +kernel
theorem gdL_law_1045 : decode cL_law 1045 = .ok (.aload_n 2, 1) := by decide +kernel
theorem gdL_law_1046 : decode cL_law 1046 = .ok (.aload_n 0, 1) := by decide +kernel
theorem gdL_law_1047 : decode cL_law 1047 = .ok (.iload_n 3, 1) := by decide +kernel
theorem gdL_law_1048 : decode cL_law 1048 = .ok (.iconst 1, 1) := by decide +kernel
theorem gdL_law_1049 : decode cL_law 1049 = .ok (.iadd, 1) := by decide +kernel
theorem gdL_law_1050 : decode cL_law 1050 = .ok (.iaload, 1) := by decide +kernel
theorem gdL_law_1051 : decode cL_law 1051 = .ok (.aload_n 0, 1) := by decide +kernel
theorem gdL_law_1052 : decode cL_law 1052 = .ok (.iload_n 3, 1) := by decide +kernel
theorem gdL_law_1053 : decode cL_law 1053 = .ok (.iconst 2, 1) := by decide +kernel
theorem gdL_law_1054 : decode cL_law 1054 = .ok (.iadd, 1) := by decide +kernel
theorem gdL_law_1055 : decode cL_law 1055 = .ok (.iaload, 1) := by decide +kernel
theorem gdL_law_1056 : decode cL_law 1056 = .ok (.invokevirtual 102, 3) := by decide +kernel
theorem gdL_law_1059 : decode cL_law 1059 = .ok (.pop, 1) := by decide +kernel
theorem gdL_law_1060 : decode cL_law 1060 = .ok (.goto 892, 3) := by decide +kernel
theorem gdL_law_1063 : decode cL_law 1063 = .ok (.aload_n 1, 1) := by decide +kernel
theorem gdL_law_1064 : decode cL_law 1064 = .ok (.aload_n 0, 1) := by decide +kernel
theorem gdL_law_1065 : decode cL_law 1065 = .ok (.iload_n 3, 1) := by decide +kernel
theorem gdL_law_1066 : decode cL_law 1066 = .ok (.iconst 1, 1) := by decide +kernel
theorem gdL_law_1067 : decode cL_law 1067 = .ok (.iadd, 1) := by decide +kernel
theorem gdL_law_1068 : decode cL_law 1068 = .ok (.iaload, 1) := by decide +kernel
theorem gdL_law_1069 : decode cL_law 1069 = .ok (.aload_n 0, 1) := by decide +kernel
theorem gdL_law_1070 : decode cL_law 1070 = .ok (.iload_n 3, 1) := by decide +kernel
theorem gdL_law_1071 : decode cL_law 1071 = .ok (.iconst 2, 1) := by decide +kernel
theorem gdL_law_1072 : decode cL_law 1072 = .ok (.iadd, 1) := by decide +kernel
theorem gdL_law_1073 : decode cL_law 1073 = .ok (.iaload, 1) := by decide +kernel
theorem gdL_law_1074 : decode cL_law 1074 = .ok (.invokevirtual 103, 3) := by decide +kernel
theorem gdL_law_1077 : decode cL_law 1077 = .ok (.pop, 1) := by decide +kernel
theorem gdL_law_1078 : decode cL_law 1078 = .ok (.aload_n 2, 1) := by decide +kernel
theorem gdL_law_1079 : decode cL_law 1079 = .ok (.aload_n 0, 1) := by decide +kernel
theorem gdL_law_1080 : decode cL_law 1080 = .ok (.iload_n 3, 1) := by decide +kernel
theorem gdL_law_1081 : decode cL_law 1081 = .ok (.iconst 1, 1) := by decide +kernel
theorem gdL_law_1082 : decode cL_law 1082 = .ok (.iadd, 1) := by decide +kernel
theorem gdL_law_1083 : decode cL_law 1083 = .ok (.iaload, 1) := by decide +kernel
theorem gdL_law_1084 : decode cL_law 1084 = .ok (.aload_n 0, 1) := by decide +kernel
theorem gdL_law_1085 : decode cL_law 1085 = .ok (.iload_n 3, 1) := by decide +kernel
theorem gdL_law_1086 : decode cL_law 1086 = .ok (.iconst 2, 1) := by decide +kernel
theorem gdL_law_1087 : decode cL_law 1087 = .ok (.iadd, 1) := by decide +kernel
theorem gdL_law_1088 : decode cL_law 1088 = .ok (.iaload, 1) := by decide +kernel
theorem gdL_law_1089 : decode cL_law 1089 = .ok (.invokevirtual 106, 3) := by decide +kernel
theorem gdL_law_1092 : decode cL_law 1092 = .ok (.pop, 1) := by decide +kernel
theorem gdL_law_1093 : decode cL_law 1093 = .ok (.goto 859, 3) := by decide +kernel
theorem gdL_law_1096 : decode cL_law 1096 = .ok (.aload_n 1, 1) := by decide +kernel
theorem gdL_law_1097 : decode cL_law 1097 = .ok (.aload_n 0, 1) := by decide +kernel
theorem gdL_law_1098 : decode cL_law 1098 = .ok (.iload_n 3, 1) := by decide +kernel
theorem gdL_law_1099 : decode cL_law 1099 = .ok (.iconst 1, 1) := by decide +kernel
theorem gdL_law_1100 : decode cL_law 1100 = .ok (.iadd, 1) := by decide +kernel
theorem gdL_law_1101 : decode cL_law 1101 = .ok (.iaload, 1) := by decide +kernel
theorem gdL_law_1102 : decode cL_law 1102 = .ok (.invokevirtual 107, 3) := by decide +kernel
theorem gdL_law_1105 : decode cL_law 1105 = .ok (.pop, 1) := by decide +kernel
theorem gdL_law_1106 : decode cL_law 1106 = .ok (.aload_n 2, 1) := by decide +kernel
theorem gdL_law_1107 : decode cL_law 1107 = .ok (.aload_n 0, 1) := by decide +kernel
theorem gdL_law_1108 : decode cL_law 1108 = .ok (.iload_n 3, 1) := by decide +kernel
theorem gdL_law_1109 : decode cL_law 1109 = .ok (.iconst 1, 1) := by decide +kernel
theorem gdL_law_1110 : decode cL_law 1110 = .ok (.iadd, 1) := by decide +kernel
theorem gdL_law_1111 : decode cL_law 1111 = .ok (.iaload, 1) := by decide +kernel
theorem gdL_law_1112 : decode cL_law 1112 = .ok (.invokevirtual 110, 3) := by decide +kernel
theorem gdL_law_1115 : decode cL_law 1115 = .ok (.pop, 1) := by decide +kernel
theorem gdL_law_1116 : decode cL_law 1116 = .ok (.goto 836, 3) := by decide +kernel
theorem gdL_law_1119 : decode cL_law 1119 = .ok (.aload_n 1, 1) := by decide +kernel
theorem gdL_law_1120 : decode cL_law 1120 = .ok (.aload_n 0, 1) := by decide +kernel
theorem gdL_law_1121 : decode cL_law 1121 = .ok (.iload_n 3, 1) := by decide +kernel
theorem gdL_law_1122 : decode cL_law 1122 = .ok (.iconst 1, 1) := by decide +kernel
theorem gdL_law_1123 : decode cL_law 1123 = .ok (.iadd, 1) := by decide +kernel
theorem gdL_law_1124 : decode cL_law 1124 = .ok (.iaload, 1) := by decide +kernel
theorem gdL_law_1125 : decode cL_law 1125 = .ok (.aload_n 0, 1) := by decide +kernel
theorem gdL_law_1126 : decode cL_law 1126 = .ok (.iload_n 3, 1) := by decide +kernel
theorem gdL_law_1127 : decode cL_law 1127 = .ok (.iconst 2, 1) := by decide +kernel
theorem gdL_law_1128 : decode cL_law 1128 = .ok (.iadd, 1) := by decide +kernel
theorem gdL_law_1129 : decode cL_law 1129 = .ok (.iaload, 1) := by decide +kernel
theorem gdL_law_1130 : decode cL_law 1130 = .ok (.invokevirtual 111, 3) := by decide +kernel
theorem gdL_law_1133 : decode cL_law 1133 = .ok (.pop, 1) := by decide +kernel
theorem gdL_law_1134 : decode cL_law 1134 = .ok (.aload_n 2, 1) := by decide +kernel
theorem gdL_law_1135 : decode cL_law 1135 = .ok (.aload_n 0, 1) := by decide +kernel
theorem gdL_law_1136 : decode cL_law 1136 = .ok (.iload_n 3, 1) := by decide +kernel
theorem gdL_law_1137 : decode cL_law 1137 = .ok (.iconst 1, 1) := by decide +kernel
theorem gdL_law_1138 : decode cL_law 1138 = .ok (.iadd, 1) := by decide +kernel
theorem gdL_law_1139 : decode cL_law 1139 = .ok (.iaload, 1) := by decide +kernel
theorem gdL_law_1140 : decode cL_law 1140 = .ok (.aload_n 0, 1) := by decide +kernel
theorem gdL_law_1141 : decode cL_law 1141 = .ok (.iload_n 3, 1) := by decide +kernel
theorem gdL_law_1142 : decode cL_law 1142 = .ok (.iconst 2, 1) := by decide +kernel
theorem gdL_law_1143 : decode cL_law 1143 = .ok (.iadd, 1) := by decide +kernel
theorem gdL_law_1144 : decode cL_law 1144 = .ok (.iaload, 1) := by decide +kernel
theorem gdL_law_1145 : decode cL_law 1145 = .ok (.invokevirtual 114, 3) := by decide +kernel
theorem gdL_law_1148 : decode cL_law 1148 = .ok (.pop, 1) := by decide +kernel
theorem gdL_law_1149 : decode cL_law 1149 = .ok (.goto 803, 3) := by decide +kernel
theorem gdL_law_1152 : decode cL_law 1152 = .ok (.aload_n 1, 1) := by decide +kernel
theorem gdL_law_1153 : decode cL_law 1153 = .ok (.aload_n 0, 1) := by decide +kernel
theorem gdL_law_1154 : decode cL_law 1154 = .ok (.iload_n 3, 1) := by decide +kernel
theorem gdL_law_1155 : decode cL_law 1155 = .ok (.iconst 1, 1) := by decide +kernel
theorem gdL_law_1156 : decode cL_law 1156 = .ok (.iadd, 1) := by decide +kernel
theorem gdL_law_1157 : decode cL_law 1157 = .ok (.iaload, 1) := by decide +kernel
theorem gdL_law_1158 : decode cL_law 1158 = .ok (.aload_n 0, 1) := by decide +kernel
theorem gdL_law_1159 : decode cL_law 1159 = .ok (.iload_n 3, 1) := by decide +kernel
theorem gdL_law_1160 : decode cL_law 1160 = .ok (.iconst 2, 1) := by decide +kernel
theorem gdL_law_1161 : decode cL_law 1161 = .ok (.iadd, 1) := by decide +kernel
theorem gdL_law_1162 : decode cL_law 1162 = .ok (.iaload, 1) := by decide +kernel
theorem gdL_law_1163 : decode cL_law 1163 = .ok (.aload_n 0, 1) := by decide +kernel
theorem gdL_law_1164 : decode cL_law 1164 = .ok (.iload_n 3, 1) := by decide +kernel
theorem gdL_law_1165 : decode cL_law 1165 = .ok (.iconst 3, 1) := by decide +kernel
theorem gdL_law_1166 : decode cL_law 1166 = .ok (.iadd, 1) := by decide +kernel
theorem gdL_law_1167 : decode cL_law 1167 = .ok (.iaload, 1) := by decide +kernel
theorem gdL_law_1168 : decode cL_law 1168 = .ok (.invokevirtual 115, 3) := by decide +kernel
theorem gdL_law_1171 : decode cL_law 1171 = .ok (.pop, 1) := by decide +kernel
theorem gdL_law_1172 : decode cL_law 1172 = .ok (.aload_n 2, 1) := by decide +kernel
theorem gdL_law_1173 : decode cL_law 1173 = .ok (.aload_n 0, 1) := by decide +kernel
theorem gdL_law_1174 : decode cL_law 1174 = .ok (.iload_n 3, 1) := by decide +kernel
theorem gdL_law_1175 : decode cL_law 1175 = .ok (.iconst 1, 1) := by decide +kernel
theorem gdL_law_1176 : decode cL_law 1176 = .ok (.iadd, 1) := by decide +kernel
theorem gdL_law_1177 : decode cL_law 1177 = .ok (.iaload, 1) := by decide +kernel
theorem gdL_law_1178 : decode cL_law 1178 = .ok (.aload_n 0, 1) := by decide +kernel
theorem gdL_law_1179 : decode cL_law 1179 = .ok (.iload_n 3, 1) := by decide +kernel
theorem gdL_law_1180 : decode cL_law 1180 = .ok (.iconst 2, 1) := by decide +kernel
theorem gdL_law_1181 : decode cL_law 1181 = .ok (.iadd, 1) := by decide +kernel
theorem gdL_law_1182 : decode cL_law 1182 = .ok (.iaload, 1) := by decide +kernel
theorem gdL_law_1183 : decode cL_law 1183 = .ok (.aload_n 0, 1) := by decide +kernel
theorem gdL_law_1184 : decode cL_law 1184 = .ok (.iload_n 3, 1) := by decide +kernel
theorem gdL_law_1185 : decode cL_law 1185 = .ok (.iconst 3, 1) := by decide +kernel
theorem gdL_law_1186 : decode cL_law 1186 = .ok (.iadd, 1) := by decide +kernel
theorem gdL_law_1187 : decode cL_law 1187 = .ok (.iaload, 1) := by decide +kernel
theorem gdL_law_1188 : decode cL_law 1188 = .ok (.invokevirtual 118, 3) := by decide +kernel
theorem gdL_law_1191 : decode cL_law 1191 = .ok (.pop, 1) := by decide +kernel
theorem gdL_law_1192 : decode cL_law 1192 = .ok (.goto 760, 3) := by decide +kernel
theorem gdL_law_1195 : decode cL_law 1195 = .ok (.aload_n 1, 1) := by decide +kernel
theorem gdL_law_1196 : decode cL_law 1196 = .ok (.aload_n 0, 1) := by decide +kernel
theorem gdL_law_1197 : decode cL_law 1197 = .ok (.iload_n 3, 1) := by decide +kernel
theorem gdL_law_1198 : decode cL_law 1198 = .ok (.iconst 1, 1) := by decide +kernel
theorem gdL_law_1199 : decode cL_law 1199 = .ok (.iadd, 1) := by decide +kernel
theorem gdL_law_1200 : decode cL_law 1200 = .ok (.iaload, 1) := by decide +kernel
theorem gdL_law_1201 : decode cL_law 1201 = .ok (.aload_n 0, 1) := by decide +kernel
theorem gdL_law_1202 : decode cL_law 1202 = .ok (.iload_n 3, 1) := by decide +kernel
theorem gdL_law_1203 : decode cL_law 1203 = .ok (.iconst 2, 1) := by decide +kernel
theorem gdL_law_1204 : decode cL_law 1204 = .ok (.iadd, 1) := by decide +kernel
theorem gdL_law_1205 : decode cL_law 1205 = .ok (.iaload, 1) := by decide +kernel
theorem gdL_law_1206 : decode cL_law 1206 = .ok (.invokevirtual 119, 3) := by decide +kernel
theorem gdL_law_1209 : decode cL_law 1209 = .ok (.pop, 1) := by decide +kernel
theorem gdL_law_1210 : decode cL_law 1210 = .ok (.aload_n 2, 1) := by decide +kernel
theorem gdL_law_1211 : decode cL_law 1211 = .ok (.aload_n 0, 1) := by decide +kernel
theorem gdL_law_1212 : decode cL_law 1212 = .ok (.iload_n 3, 1) := by decide +kernel
theorem gdL_law_1213 : decode cL_law 1213 = .ok (.iconst 1, 1) := by decide +kernel
theorem gdL_law_1214 : decode cL_law 1214 = .ok (.iadd, 1) := by decide +kernel
theorem gdL_law_1215 : decode cL_law 1215 = .ok (.iaload, 1) := by decide +kernel
theorem gdL_law_1216 : decode cL_law 1216 = .ok (.aload_n 0, 1) := by decide +kernel
theorem gdL_law_1217 : decode cL_law 1217 = .ok (.iload_n 3, 1) := by decide +kernel
theorem gdL_law_1218 : decode cL_law 1218 = .ok (.iconst 2, 1) := by decide +kernel
theorem gdL_law_1219 : decode cL_law 1219 = .ok (.iadd, 1) := by decide +kernel
theorem gdL_law_1220 : decode cL_law 1220 = .ok (.iaload, 1) := by decide +kernel
theorem gdL_law_1221 : decode cL_law 1221 = .ok (.invokevirtual 122, 3) := by decide +kernel
theorem gdL_law_1224 : decode cL_law 1224 = .ok (.pop, 1) := by decide +kernel
theorem gdL_law_1225 : decode cL_law 1225 = .ok (.goto 727, 3) := by decide +kernel
theorem okm_X11_row : okM yX11_row cX11_row 3 (some .int) 2 := ⟨w_516, w_89, by decide +kernel, by decide +kernel, by decide +kernel⟩
theorem okw_X11_row : okV yX11_row := ⟨w_514, w_515⟩
theorem okm_X12_row : okM yX12_row cX12_row 4 (some .int) 2 := ⟨w_1701, w_103, by decide +kernel, by decide +kernel, by decide +kernel⟩
theorem okw_X12_row : okV yX12_row := ⟨w_1699, w_1700⟩
theorem okm_X11_lay : okM yX11_lay cX11_lay 4 (some .int) 3 := ⟨w_538, w_89, by decide +kernel, by decide +kernel, by decide +kernel⟩
theorem okw_X11_lay : okV yX11_lay := ⟨w_536, w_537⟩
theorem okm_X12_lay : okM yX12_lay cX12_lay 5 (some .int) 3 := ⟨w_1715, w_103, by decide +kernel, by decide +kernel, by decide +kernel⟩
theorem okw_X12_lay : okV yX12_lay := ⟨w_1713, w_1714⟩
theorem okm_X11_tear : okM yX11_tear cX11_tear 2 (some .int) 1 := ⟨w_558, w_89, by decide +kernel, by decide +kernel, by decide +kernel⟩
theorem okw_X11_tear : okV yX11_tear := ⟨w_556, w_557⟩
theorem okm_X12_tear : okM yX12_tear cX12_tear 3 (some .int) 1 := ⟨w_1723, w_103, by decide +kernel, by decide +kernel, by decide +kernel⟩
theorem okw_X12_tear : okV yX12_tear := ⟨w_1721, w_1722⟩
theorem okm_X11_copy : okM yX11_copy cX11_copy 6 (some .int) 5 := ⟨w_566, w_89, by decide +kernel, by decide +kernel, by decide +kernel⟩
theorem okw_X11_copy : okV yX11_copy := ⟨w_564, w_565⟩
theorem okm_X12_copy : okM yX12_copy cX12_copy 7 (some .int) 5 := ⟨w_1727, w_103, by decide +kernel, by decide +kernel, by decide +kernel⟩
theorem okw_X12_copy : okV yX12_copy := ⟨w_1725, w_1726⟩
theorem okm_X11_text : okM yX11_text cX11_text 3 (some .int) 2 := ⟨w_581, w_89, by decide +kernel, by decide +kernel, by decide +kernel⟩
theorem okw_X11_text : okV yX11_text := ⟨w_579, w_580⟩
theorem okm_X12_text : okM yX12_text cX12_text 4 (some .int) 2 := ⟨w_1731, w_103, by decide +kernel, by decide +kernel, by decide +kernel⟩
theorem okw_X12_text : okV yX12_text := ⟨w_1729, w_1730⟩
theorem okm_X11_put : okM yX11_put cX11_put 4 (some .int) 3 := ⟨w_585, w_89, by decide +kernel, by decide +kernel, by decide +kernel⟩
theorem okw_X11_put : okV yX11_put := ⟨w_583, w_584⟩
theorem okm_X12_put : okM yX12_put cX12_put 6 (some .int) 3 := ⟨w_1738, w_103, by decide +kernel, by decide +kernel, by decide +kernel⟩
theorem okw_X12_put : okV yX12_put := ⟨w_1736, w_1737⟩
theorem okm_X11_fault : okM yX11_fault cX11_fault 2 (some .int) 1 := ⟨w_589, w_89, by decide +kernel, by decide +kernel, by decide +kernel⟩
theorem okw_X11_fault : okV yX11_fault := ⟨w_587, w_588⟩
theorem okm_X12_fault : okM yX12_fault cX12_fault 3 (some .int) 1 := ⟨w_1750, w_103, by decide +kernel, by decide +kernel, by decide +kernel⟩
theorem okw_X12_fault : okV yX12_fault := ⟨w_1748, w_1749⟩
theorem okm_X11_later : okM yX11_later cX11_later 2 (some .int) 1 := ⟨w_616, w_89, by decide +kernel, by decide +kernel, by decide +kernel⟩
theorem okw_X11_later : okV yX11_later := ⟨w_614, w_615⟩
theorem okm_X12_later : okM yX12_later cX12_later 2 (some .int) 1 := ⟨w_1746, w_103, by decide +kernel, by decide +kernel, by decide +kernel⟩
theorem okw_X12_later : okV yX12_later := ⟨w_1744, w_1745⟩
theorem okm_X11_cell : okM yX11_cell cX11_cell 4 (some .int) 3 := ⟨w_620, w_89, by decide +kernel, by decide +kernel, by decide +kernel⟩
theorem okw_X11_cell : okV yX11_cell := ⟨w_618, w_619⟩
theorem okm_X12_cell : okM yX12_cell cX12_cell 4 (some .int) 3 := ⟨w_1787, w_103, by decide +kernel, by decide +kernel, by decide +kernel⟩
theorem okw_X12_cell : okV yX12_cell := ⟨w_1785, w_1786⟩
theorem okm_X11_building : okM yX11_building cX11_building 5 (some .int) 4 := ⟨w_635, w_89, by decide +kernel, by decide +kernel, by decide +kernel⟩
theorem okw_X11_building : okV yX11_building := ⟨w_633, w_634⟩
theorem okm_X12_building : okM yX12_building cX12_building 5 (some .int) 4 := ⟨w_1798, w_103, by decide +kernel, by decide +kernel, by decide +kernel⟩
theorem okw_X12_building : okV yX12_building := ⟨w_1796, w_1797⟩
theorem okm_X11_worth : okM yX11_worth cX11_worth 4 (some .int) 2 := ⟨w_666, w_89, by decide +kernel, by decide +kernel, by decide +kernel⟩
theorem okw_X11_worth : okV yX11_worth := ⟨w_664, w_665⟩
theorem okm_X12_worth : okM yX12_worth cX12_worth 4 (some .int) 2 := ⟨w_1810, w_103, by decide +kernel, by decide +kernel, by decide +kernel⟩
theorem okw_X12_worth : okV yX12_worth := ⟨w_1808, w_1809⟩
theorem okm_X11_value : okM yX11_value cX11_value 3 (some .int) 2 := ⟨w_683, w_89, by decide +kernel, by decide +kernel, by decide +kernel⟩
theorem okw_X11_value : okV yX11_value := ⟨w_681, w_682⟩
theorem okm_X12_value : okM yX12_value cX12_value 3 (some .int) 2 := ⟨w_1822, w_103, by decide +kernel, by decide +kernel, by decide +kernel⟩
theorem okw_X12_value : okV yX12_value := ⟨w_1820, w_1821⟩
theorem okm_X11_house : okM yX11_house cX11_house 3 (some .int) 2 := ⟨w_694, w_89, by decide +kernel, by decide +kernel, by decide +kernel⟩
theorem okw_X11_house : okV yX11_house := ⟨w_692, w_693⟩
theorem okm_X12_house : okM yX12_house cX12_house 3 (some .int) 2 := ⟨w_1826, w_103, by decide +kernel, by decide +kernel, by decide +kernel⟩
theorem okw_X12_house : okV yX12_house := ⟨w_1824, w_1825⟩
theorem okm_X11_person : okM yX11_person cX11_person 6 (some .int) 4 := ⟨w_702, w_89, by decide +kernel, by decide +kernel, by decide +kernel⟩
theorem okw_X11_person : okV yX11_person := ⟨w_700, w_701⟩
theorem okm_X12_person : okM yX12_person cX12_person 5 (some .int) 4 := ⟨w_1842, w_103, by decide +kernel, by decide +kernel, by decide +kernel⟩
theorem okw_X12_person : okV yX12_person := ⟨w_1840, w_1841⟩
theorem okm_X11_who : okM yX11_who cX11_who 3 (some .int) 2 := ⟨w_734, w_89, by decide +kernel, by decide +kernel, by decide +kernel⟩
theorem okw_X11_who : okV yX11_who := ⟨w_732, w_733⟩
theorem okm_X12_who : okM yX12_who cX12_who 3 (some .int) 2 := ⟨w_1850, w_103, by decide +kernel, by decide +kernel, by decide +kernel⟩
theorem okw_X12_who : okV yX12_who := ⟨w_1848, w_1849⟩
theorem okm_X11_mean : okM yX11_mean cX11_mean 5 (some .int) 1 := ⟨w_746, w_89, by decide +kernel, by decide +kernel, by decide +kernel⟩
theorem okw_X11_mean : okV yX11_mean := ⟨w_744, w_745⟩
theorem okm_X12_mean : okM yX12_mean cX12_mean 6 (some .int) 1 := ⟨w_1862, w_103, by decide +kernel, by decide +kernel, by decide +kernel⟩
theorem okw_X12_mean : okV yX12_mean := ⟨w_1860, w_1861⟩
theorem okm_X11_rule : okM yX11_rule cX11_rule 3 (some .int) 2 := ⟨w_751, w_89, by decide +kernel, by decide +kernel, by decide +kernel⟩
theorem okw_X11_rule : okV yX11_rule := ⟨w_749, w_750⟩
theorem okm_X12_rule : okM yX12_rule cX12_rule 4 (some .int) 2 := ⟨w_1761, w_103, by decide +kernel, by decide +kernel, by decide +kernel⟩
theorem okw_X12_rule : okV yX12_rule := ⟨w_1759, w_1760⟩
theorem okm_X11_force : okM yX11_force cX11_force 4 (some .int) 3 := ⟨w_767, w_89, by decide +kernel, by decide +kernel, by decide +kernel⟩
theorem okw_X11_force : okV yX11_force := ⟨w_765, w_766⟩
theorem okm_X12_force : okM yX12_force cX12_force 4 (some .int) 3 := ⟨w_1768, w_103, by decide +kernel, by decide +kernel, by decide +kernel⟩
theorem okw_X12_force : okV yX12_force := ⟨w_1766, w_1767⟩
theorem okm_X11_why : okM yX11_why cX11_why 4 (some .int) 3 := ⟨w_784, w_89, by decide +kernel, by decide +kernel, by decide +kernel⟩
theorem okw_X11_why : okV yX11_why := ⟨w_782, w_783⟩
theorem okm_X12_why : okM yX12_why cX12_why 4 (some .int) 3 := ⟨w_1783, w_103, by decide +kernel, by decide +kernel, by decide +kernel⟩
theorem okw_X12_why : okV yX12_why := ⟨w_1781, w_1782⟩
theorem okm_X11_line : okM yX11_line cX11_line 5 (some .int) 3 := ⟨w_789, w_89, by decide +kernel, by decide +kernel, by decide +kernel⟩
theorem okw_X11_line : okV yX11_line := ⟨w_787, w_788⟩
theorem okm_X12_line : okM yX12_line cX12_line 12 (some .int) 3 := ⟨w_1866, w_103, by decide +kernel, by decide +kernel, by decide +kernel⟩
theorem okw_X12_line : okV yX12_line := ⟨w_1864, w_1865⟩
theorem okm_X11_ramp : okM yX11_ramp cX11_ramp 7 (some .int) 2 := ⟨w_881, w_89, by decide +kernel, by decide +kernel, by decide +kernel⟩
theorem okw_X11_ramp : okV yX11_ramp := ⟨w_879, w_880⟩
theorem okm_X12_ramp : okM yX12_ramp cX12_ramp 5 (some .int) 2 := ⟨w_1902, w_103, by decide +kernel, by decide +kernel, by decide +kernel⟩
theorem okw_X12_ramp : okV yX12_ramp := ⟨w_1900, w_1901⟩
theorem okm_X11_cellOf : okM yX11_cellOf cX11_cellOf 3 (some .int) 2 := ⟨w_910, w_89, by decide +kernel, by decide +kernel, by decide +kernel⟩
theorem okw_X11_cellOf : okV yX11_cellOf := ⟨w_908, w_909⟩
theorem okm_X12_cellOf : okM yX12_cellOf cX12_cellOf 4 (some .int) 2 := ⟨w_1924, w_103, by decide +kernel, by decide +kernel, by decide +kernel⟩
theorem okw_X12_cellOf : okV yX12_cellOf := ⟨w_1922, w_1923⟩
theorem okm_X11_show : okM yX11_show cX11_show 7 (some .int) 1 := ⟨w_918, w_89, by decide +kernel, by decide +kernel, by decide +kernel⟩
theorem okw_X11_show : okV yX11_show := ⟨w_916, w_917⟩
theorem okm_X12_show : okM yX12_show cX12_show 8 (some .int) 1 := ⟨w_1932, w_103, by decide +kernel, by decide +kernel, by decide +kernel⟩
theorem okw_X12_show : okV yX12_show := ⟨w_1930, w_1931⟩
theorem okm_X11_take : okM yX11_take cX11_take 7 (some .int) 2 := ⟨w_958, w_89, by decide +kernel, by decide +kernel, by decide +kernel⟩
theorem okw_X11_take : okV yX11_take := ⟨w_956, w_957⟩
theorem okm_X12_take : okM yX12_take cX12_take 6 (some .int) 2 := ⟨w_1940, w_103, by decide +kernel, by decide +kernel, by decide +kernel⟩
theorem okw_X12_take : okV yX12_take := ⟨w_1938, w_1939⟩
theorem okm_X11_moved : okM yX11_moved cX11_moved 6 (some .int) 3 := ⟨w_978, w_89, by decide +kernel, by decide +kernel, by decide +kernel⟩
theorem okw_X11_moved : okV yX11_moved := ⟨w_976, w_977⟩
theorem okm_X12_moved : okM yX12_moved cX12_moved 5 (some .int) 3 := ⟨w_1948, w_103, by decide +kernel, by decide +kernel, by decide +kernel⟩
theorem okw_X12_moved : okV yX12_moved := ⟨w_1946, w_1947⟩
theorem okm_X11_grant : okM yX11_grant cX11_grant 4 (some .int) 2 := ⟨w_998, w_89, by decide +kernel, by decide +kernel, by decide +kernel⟩
theorem okw_X11_grant : okV yX11_grant := ⟨w_996, w_997⟩
theorem okm_X12_grant : okM yX12_grant cX12_grant 4 (some .int) 2 := ⟨w_1952, w_103, by decide +kernel, by decide +kernel, by decide +kernel⟩
theorem okw_X12_grant : okV yX12_grant := ⟨w_1950, w_1951⟩
set_option maxHeartbeats 4000000 in
set_option maxRecDepth 100000 in
theorem law_0 (l : Launch) (g : GG) {p : Program} {e : Env} {s : State} {m : MethodId} {below : List Frame} {meth : Method} {c : Code} {b L : Nat} {scr : Nat → Int32} {A : Nat → Prop} {Q : State → Prop} {cells slots : Nat} {H : Heap} {locs : List Loc} {ls : Array Slot} {adC adM : Nat → Nat} {oC oM : OO} {B i : Int} (X : En p s m #[Value.ref b] meth c cL_law 4 ret R_law meth.name) (hK : va_K g.1 classes (tyG g) s) (hA : ∀ q, s.heap.size ≤ q → A q) (hZ : stS g A s s.heap) (hX : va_X b L scr s s.heap) (hbl : b < s.heap.size) (hbA : ¬ A b) (hcs : cells + 0 ≤ room_1.cells ∧ slots + 0 ≤ room_1.slots) (hL : L ≤ 3072) (i0 : 0 ≤ i) (i1 : i + 6 ≤ (L : Int)) (hB0 : 0 ≤ B) (hB1 : B ≤ 379000000) (invC : INVC oC B) (invM : INVM oM) (hR : REL oC oM) (hP : va_P g.1 classes (wC g adC oC ++ wM g adM oM) H) (hD : va_D A (wC g adC oC ++ wM g adM oM)) (hS : va_S A s.heap H locs) (hl : lv_has ls 4 [(3, iv i), (2, .ref (adM 0)), (1, .ref (adC 0)), (0, .ref b)])
    (kend : ∀ (oC oM : OO) (H : Heap) (locs : List Loc) (ls : Array Slot), INVC oC (B + 740000) → INVM oM → REL oC oM → va_P g.1 classes (wC g adC oC ++ wM g adM oM) H → va_D A (wC g adC oC ++ wM g adM oM) → va_S A s.heap H locs → lv_has ls 4 [(3, iv i), (2, .ref (adM 0)), (1, .ref (adC 0)), (0, .ref b)] → W p l e room_1 s m #[Value.ref b] below meth c H locs cells slots Q (F0 m 1952 ls [])) : W p l e room_1 s m #[Value.ref b] below meth c H locs cells slots Q (F0 m 264 ls []) := by
  have hx := X.1
  have hb := X.2.1
  have sr1 := scr_R scr i 1
  have sr2 := scr_R scr i 2
  have sr3 := scr_R scr i 3
  have sr4 := scr_R scr i 4
  have sr5 := scr_R scr i 5
  have iC0 := invC
  have iM0 := invM
  refine lv_aload_n hx hb gdL_law_264 rfl (lv_at hl 2 rfl) ?_
  refine lv_aload_n hx hb gdL_law_265 rfl (lv_at hl 3 rfl) ?_
  refine lv_iload_n hx hb gdL_law_266 rfl (lv_at hl 0 rfl) ?_
  refine lv_iconst (v := Int32.ofInt 1) hx hb gdL_law_267 rfl ?_
  refine lv_iadd hx hb gdL_law_268 (lv_topk (oi_add i 1) ?_)
  refine va_sld hx hb hX hbl hbA hS (vin (by omega) (by omega) hL) gdL_law_269 ?_
  refine lv_topk (scr_i scr i 1) ?_
  refine lv_aload_n hx hb gdL_law_270 rfl (lv_at hl 3 rfl) ?_
  refine lv_iload_n hx hb gdL_law_271 rfl (lv_at hl 0 rfl) ?_
  refine lv_iconst (v := Int32.ofInt 2) hx hb gdL_law_272 rfl ?_
  refine lv_iadd hx hb gdL_law_273 (lv_topk (oi_add i 2) ?_)
  refine va_sld hx hb hX hbl hbA hS (vin (by omega) (by omega) hL) gdL_law_274 ?_
  refine lv_topk (scr_i scr i 2) ?_
  obtain ⟨v0, hv0, hq0⟩ := t_X11_row oC (scr_ scr i 1) (scr_ scr i 2) invC.1 (by omega) (by omega)
  refine kCi (oC := oC) (oM := oM) X (c_X11_row l g adC oC (scr_ scr i 1) (scr_ scr i 2) v0 hv0) rfl okm_X11_row okw_X11_row w_513 rfl hK hP hD hS hA hZ hl.1 rfl (Nat.le_of_ble_eq_true rfl) ⟨(Nat.le_of_ble_eq_true rfl), (Nat.le_of_ble_eq_true rfl)⟩ gdL_law_275 hcs (fun H locs hP hD hS => ?_)
  replace hq0 : BoxC v0.2 ∧ (Fr [(0, 17), (2, 9999), (3, 9999), (77, 9999)] oC v0.2) ∧ (v0.1 = RWA ((scr_ scr i 1)) ((scr_ scr i 2))) := hq0
  replace invC : INVC v0.2 (B + 740000) := invC.fr hB0 hq0.1 hq0.2.1 rfl rfl (fun _ => rfl) (fun _ => rfl) (fun _ => rfl) (fun _ => rfl) (fun _ => rfl) (fun _ => rfl)
  refine lv_pop hx hb gdL_law_278 rfl ?_
  refine lv_aload_n hx hb gdL_law_279 rfl (lv_at hl 1 rfl) ?_
  refine lv_aload_n hx hb gdL_law_280 rfl (lv_at hl 3 rfl) ?_
  refine lv_iload_n hx hb gdL_law_281 rfl (lv_at hl 0 rfl) ?_
  refine lv_iconst (v := Int32.ofInt 1) hx hb gdL_law_282 rfl ?_
  refine lv_iadd hx hb gdL_law_283 (lv_topk (oi_add i 1) ?_)
  refine va_sld hx hb hX hbl hbA hS (vin (by omega) (by omega) hL) gdL_law_284 ?_
  refine lv_topk (scr_i scr i 1) ?_
  refine lv_aload_n hx hb gdL_law_285 rfl (lv_at hl 3 rfl) ?_
  refine lv_iload_n hx hb gdL_law_286 rfl (lv_at hl 0 rfl) ?_
  refine lv_iconst (v := Int32.ofInt 2) hx hb gdL_law_287 rfl ?_
  refine lv_iadd hx hb gdL_law_288 (lv_topk (oi_add i 2) ?_)
  refine va_sld hx hb hX hbl hbA hS (vin (by omega) (by omega) hL) gdL_law_289 ?_
  refine lv_topk (scr_i scr i 2) ?_
  obtain ⟨v1, hv1, hq1⟩ := t_X12_row oM (scr_ scr i 1) (scr_ scr i 2) invM.1 (by omega) (by omega)
  refine kMi (oC := v0.2) (oM := oM) X (c_X12_row l g adM oM (scr_ scr i 1) (scr_ scr i 2) v1 hv1) rfl okm_X12_row okw_X12_row w_1698 rfl hK hP hD hS hA hZ hl.1 rfl (Nat.le_of_ble_eq_true rfl) ⟨(Nat.le_of_ble_eq_true rfl), (Nat.le_of_ble_eq_true rfl)⟩ gdL_law_290 hcs (fun H locs hP hD hS => ?_)
  replace hq1 : BoxM v1.2 ∧ (Fr [(0, 0), (1, 9999), (2, 9999), (3, 9999)] oM v1.2) ∧ (v1.1 = RWA ((scr_ scr i 1)) ((scr_ scr i 2))) := hq1
  replace invM : INVM v1.2 := invM.fr hq1.1 hq1.2.1 rfl rfl (fun _ => rfl)
  have hsp : v0.1 = v1.1 ∧ SH3 v0.2 v1.2 := SH3.lay (w := 0) hR.1 (fun r => (bM_2 iM0.1 r).2) (ra_row_C (BC10 iC0.1) (BC11 iC0.1) (scr_ scr i 1) (scr_ scr i 2) _ hv0) (ra_row_M oM (scr_ scr i 1) (scr_ scr i 2) _ hv1)
  refine lv_pop hx hb gdL_law_293 rfl ?_
  refine lv_goto (tgt := 1952) hx hb gdL_law_294 (by decide) ?_
  have hR9 : REL v0.2 v1.2 := ⟨hsp.2, hR.2.1.fr hq0.2.1 hq1.2.1 (fun _ => rfl) (fun _ => rfl) (fun _ => rfl) (fun _ => rfl), day_fr hR.2.2.1 hq0.2.1 hq1.2.1 rfl rfl, hR.2.2.2.1.fr hq0.2.1 hq1.2.1 rfl rfl (fun _ => rfl) (fun _ => rfl) (fun _ => rfl) (fun _ => rfl) (fun _ => rfl) (fun _ => rfl), hR.2.2.2.2.fr hq0.2.1 hq1.2.1 rfl rfl (fun _ => rfl) (fun _ => rfl)⟩
  exact kend v0.2 v1.2 _ _ _ invC invM hR9 hP hD hS hl
set_option maxHeartbeats 4000000 in
set_option maxRecDepth 100000 in
theorem law_1 (l : Launch) (g : GG) {p : Program} {e : Env} {s : State} {m : MethodId} {below : List Frame} {meth : Method} {c : Code} {b L : Nat} {scr : Nat → Int32} {A : Nat → Prop} {Q : State → Prop} {cells slots : Nat} {H : Heap} {locs : List Loc} {ls : Array Slot} {adC adM : Nat → Nat} {oC oM : OO} {B i : Int} (X : En p s m #[Value.ref b] meth c cL_law 4 ret R_law meth.name) (hK : va_K g.1 classes (tyG g) s) (hA : ∀ q, s.heap.size ≤ q → A q) (hZ : stS g A s s.heap) (hX : va_X b L scr s s.heap) (hbl : b < s.heap.size) (hbA : ¬ A b) (hcs : cells + 0 ≤ room_1.cells ∧ slots + 0 ≤ room_1.slots) (hL : L ≤ 3072) (i0 : 0 ≤ i) (i1 : i + 6 ≤ (L : Int)) (hB0 : 0 ≤ B) (hB1 : B ≤ 379000000) (invC : INVC oC B) (invM : INVM oM) (hR : REL oC oM) (hP : va_P g.1 classes (wC g adC oC ++ wM g adM oM) H) (hD : va_D A (wC g adC oC ++ wM g adM oM)) (hS : va_S A s.heap H locs) (hl : lv_has ls 4 [(3, iv i), (2, .ref (adM 0)), (1, .ref (adC 0)), (0, .ref b)])
    (kend : ∀ (oC oM : OO) (H : Heap) (locs : List Loc) (ls : Array Slot), INVC oC (B + 740000) → INVM oM → REL oC oM → va_P g.1 classes (wC g adC oC ++ wM g adM oM) H → va_D A (wC g adC oC ++ wM g adM oM) → va_S A s.heap H locs → lv_has ls 4 [(3, iv i), (2, .ref (adM 0)), (1, .ref (adC 0)), (0, .ref b)] → W p l e room_1 s m #[Value.ref b] below meth c H locs cells slots Q (F0 m 1952 ls [])) : W p l e room_1 s m #[Value.ref b] below meth c H locs cells slots Q (F0 m 297 ls []) := by
  have hx := X.1
  have hb := X.2.1
  have sr1 := scr_R scr i 1
  have sr2 := scr_R scr i 2
  have sr3 := scr_R scr i 3
  have sr4 := scr_R scr i 4
  have sr5 := scr_R scr i 5
  have iC0 := invC
  have iM0 := invM
  refine lv_aload_n hx hb gdL_law_297 rfl (lv_at hl 2 rfl) ?_
  refine lv_aload_n hx hb gdL_law_298 rfl (lv_at hl 3 rfl) ?_
  refine lv_iload_n hx hb gdL_law_299 rfl (lv_at hl 0 rfl) ?_
  refine lv_iconst (v := Int32.ofInt 1) hx hb gdL_law_300 rfl ?_
  refine lv_iadd hx hb gdL_law_301 (lv_topk (oi_add i 1) ?_)
  refine va_sld hx hb hX hbl hbA hS (vin (by omega) (by omega) hL) gdL_law_302 ?_
  refine lv_topk (scr_i scr i 1) ?_
  refine lv_aload_n hx hb gdL_law_303 rfl (lv_at hl 3 rfl) ?_
  refine lv_iload_n hx hb gdL_law_304 rfl (lv_at hl 0 rfl) ?_
  refine lv_iconst (v := Int32.ofInt 2) hx hb gdL_law_305 rfl ?_
  refine lv_iadd hx hb gdL_law_306 (lv_topk (oi_add i 2) ?_)
  refine va_sld hx hb hX hbl hbA hS (vin (by omega) (by omega) hL) gdL_law_307 ?_
  refine lv_topk (scr_i scr i 2) ?_
  refine lv_aload_n hx hb gdL_law_308 rfl (lv_at hl 3 rfl) ?_
  refine lv_iload_n hx hb gdL_law_309 rfl (lv_at hl 0 rfl) ?_
  refine lv_iconst (v := Int32.ofInt 3) hx hb gdL_law_310 rfl ?_
  refine lv_iadd hx hb gdL_law_311 (lv_topk (oi_add i 3) ?_)
  refine va_sld hx hb hX hbl hbA hS (vin (by omega) (by omega) hL) gdL_law_312 ?_
  refine lv_topk (scr_i scr i 3) ?_
  obtain ⟨v0, hv0, hq0⟩ := t_X11_lay oC (scr_ scr i 1) (scr_ scr i 2) (scr_ scr i 3) invC.1 (by omega) (by omega) (by omega)
  refine kCi (oC := oC) (oM := oM) X (c_X11_lay l g adC oC (scr_ scr i 1) (scr_ scr i 2) (scr_ scr i 3) v0 hv0) rfl okm_X11_lay okw_X11_lay w_535 rfl hK hP hD hS hA hZ hl.1 rfl (Nat.le_of_ble_eq_true rfl) ⟨(Nat.le_of_ble_eq_true rfl), (Nat.le_of_ble_eq_true rfl)⟩ gdL_law_313 hcs (fun H locs hP hD hS => ?_)
  replace hq0 : BoxC v0.2 ∧ (Fr [(0, 14), (0, 17), (3, 9999), (77, 9999)] oC v0.2) := hq0
  replace invC : INVC v0.2 (B + 740000) := invC.fr hB0 hq0.1 hq0.2 rfl rfl (fun _ => rfl) (fun _ => rfl) (fun _ => rfl) (fun _ => rfl) (fun _ => rfl) (fun _ => rfl)
  refine lv_pop hx hb gdL_law_316 rfl ?_
  refine lv_aload_n hx hb gdL_law_317 rfl (lv_at hl 1 rfl) ?_
  refine lv_aload_n hx hb gdL_law_318 rfl (lv_at hl 3 rfl) ?_
  refine lv_iload_n hx hb gdL_law_319 rfl (lv_at hl 0 rfl) ?_
  refine lv_iconst (v := Int32.ofInt 1) hx hb gdL_law_320 rfl ?_
  refine lv_iadd hx hb gdL_law_321 (lv_topk (oi_add i 1) ?_)
  refine va_sld hx hb hX hbl hbA hS (vin (by omega) (by omega) hL) gdL_law_322 ?_
  refine lv_topk (scr_i scr i 1) ?_
  refine lv_aload_n hx hb gdL_law_323 rfl (lv_at hl 3 rfl) ?_
  refine lv_iload_n hx hb gdL_law_324 rfl (lv_at hl 0 rfl) ?_
  refine lv_iconst (v := Int32.ofInt 2) hx hb gdL_law_325 rfl ?_
  refine lv_iadd hx hb gdL_law_326 (lv_topk (oi_add i 2) ?_)
  refine va_sld hx hb hX hbl hbA hS (vin (by omega) (by omega) hL) gdL_law_327 ?_
  refine lv_topk (scr_i scr i 2) ?_
  refine lv_aload_n hx hb gdL_law_328 rfl (lv_at hl 3 rfl) ?_
  refine lv_iload_n hx hb gdL_law_329 rfl (lv_at hl 0 rfl) ?_
  refine lv_iconst (v := Int32.ofInt 3) hx hb gdL_law_330 rfl ?_
  refine lv_iadd hx hb gdL_law_331 (lv_topk (oi_add i 3) ?_)
  refine va_sld hx hb hX hbl hbA hS (vin (by omega) (by omega) hL) gdL_law_332 ?_
  refine lv_topk (scr_i scr i 3) ?_
  obtain ⟨v1, hv1, hq1⟩ := t_X12_lay oM (scr_ scr i 1) (scr_ scr i 2) (scr_ scr i 3) invM.1 (by omega) (by omega) (by omega)
  refine kMi (oC := v0.2) (oM := oM) X (c_X12_lay l g adM oM (scr_ scr i 1) (scr_ scr i 2) (scr_ scr i 3) v1 hv1) rfl okm_X12_lay okw_X12_lay w_1712 rfl hK hP hD hS hA hZ hl.1 rfl (Nat.le_of_ble_eq_true rfl) ⟨(Nat.le_of_ble_eq_true rfl), (Nat.le_of_ble_eq_true rfl)⟩ gdL_law_333 hcs (fun H locs hP hD hS => ?_)
  replace hq1 : BoxM v1.2 ∧ (Fr [(0, 0), (0, 2), (1, 9999), (3, 9999)] oM v1.2) := hq1
  replace invM : INVM v1.2 := invM.fr hq1.1 hq1.2 rfl rfl (fun _ => rfl)
  have hsp : v0.1 = v1.1 ∧ SH3 v0.2 v1.2 := SH3.ex hR.1 (bM_2 iM0.1) (ra_lay_C (BC10 iC0.1) (scr_ scr i 1) (scr_ scr i 2) (scr_ scr i 3) _ hv0) (ra_lay_M oM (scr_ scr i 1) (scr_ scr i 2) (scr_ scr i 3) _ hv1)
  refine lv_pop hx hb gdL_law_336 rfl ?_
  refine lv_goto (tgt := 1952) hx hb gdL_law_337 (by decide) ?_
  have hR9 : REL v0.2 v1.2 := ⟨hsp.2, hR.2.1.fr hq0.2 hq1.2 (fun _ => rfl) (fun _ => rfl) (fun _ => rfl) (fun _ => rfl), day_fr hR.2.2.1 hq0.2 hq1.2 rfl rfl, hR.2.2.2.1.fr hq0.2 hq1.2 rfl rfl (fun _ => rfl) (fun _ => rfl) (fun _ => rfl) (fun _ => rfl) (fun _ => rfl) (fun _ => rfl), hR.2.2.2.2.fr hq0.2 hq1.2 rfl rfl (fun _ => rfl) (fun _ => rfl)⟩
  exact kend v0.2 v1.2 _ _ _ invC invM hR9 hP hD hS hl
set_option maxHeartbeats 4000000 in
set_option maxRecDepth 100000 in
theorem law_2 (l : Launch) (g : GG) {p : Program} {e : Env} {s : State} {m : MethodId} {below : List Frame} {meth : Method} {c : Code} {b L : Nat} {scr : Nat → Int32} {A : Nat → Prop} {Q : State → Prop} {cells slots : Nat} {H : Heap} {locs : List Loc} {ls : Array Slot} {adC adM : Nat → Nat} {oC oM : OO} {B i : Int} (X : En p s m #[Value.ref b] meth c cL_law 4 ret R_law meth.name) (hK : va_K g.1 classes (tyG g) s) (hA : ∀ q, s.heap.size ≤ q → A q) (hZ : stS g A s s.heap) (hX : va_X b L scr s s.heap) (hbl : b < s.heap.size) (hbA : ¬ A b) (hcs : cells + 0 ≤ room_1.cells ∧ slots + 0 ≤ room_1.slots) (hL : L ≤ 3072) (i0 : 0 ≤ i) (i1 : i + 6 ≤ (L : Int)) (hB0 : 0 ≤ B) (hB1 : B ≤ 379000000) (invC : INVC oC B) (invM : INVM oM) (hR : REL oC oM) (hP : va_P g.1 classes (wC g adC oC ++ wM g adM oM) H) (hD : va_D A (wC g adC oC ++ wM g adM oM)) (hS : va_S A s.heap H locs) (hl : lv_has ls 4 [(3, iv i), (2, .ref (adM 0)), (1, .ref (adC 0)), (0, .ref b)])
    (kend : ∀ (oC oM : OO) (H : Heap) (locs : List Loc) (ls : Array Slot), INVC oC (B + 740000) → INVM oM → REL oC oM → va_P g.1 classes (wC g adC oC ++ wM g adM oM) H → va_D A (wC g adC oC ++ wM g adM oM) → va_S A s.heap H locs → lv_has ls 4 [(3, iv i), (2, .ref (adM 0)), (1, .ref (adC 0)), (0, .ref b)] → W p l e room_1 s m #[Value.ref b] below meth c H locs cells slots Q (F0 m 1952 ls [])) : W p l e room_1 s m #[Value.ref b] below meth c H locs cells slots Q (F0 m 340 ls []) := by
  have hx := X.1
  have hb := X.2.1
  have sr1 := scr_R scr i 1
  have sr2 := scr_R scr i 2
  have sr3 := scr_R scr i 3
  have sr4 := scr_R scr i 4
  have sr5 := scr_R scr i 5
  have iC0 := invC
  have iM0 := invM
  refine lv_aload_n hx hb gdL_law_340 rfl (lv_at hl 2 rfl) ?_
  refine lv_aload_n hx hb gdL_law_341 rfl (lv_at hl 3 rfl) ?_
  refine lv_iload_n hx hb gdL_law_342 rfl (lv_at hl 0 rfl) ?_
  refine lv_iconst (v := Int32.ofInt 1) hx hb gdL_law_343 rfl ?_
  refine lv_iadd hx hb gdL_law_344 (lv_topk (oi_add i 1) ?_)
  refine va_sld hx hb hX hbl hbA hS (vin (by omega) (by omega) hL) gdL_law_345 ?_
  refine lv_topk (scr_i scr i 1) ?_
  obtain ⟨v0, hv0, hq0⟩ := t_X11_tear oC (scr_ scr i 1) invC.1 (by omega)
  refine kCi (oC := oC) (oM := oM) X (c_X11_tear l g adC oC (scr_ scr i 1) v0 hv0) rfl okm_X11_tear okw_X11_tear w_555 rfl hK hP hD hS hA hZ hl.1 rfl (Nat.le_of_ble_eq_true rfl) ⟨(Nat.le_of_ble_eq_true rfl), (Nat.le_of_ble_eq_true rfl)⟩ gdL_law_346 hcs (fun H locs hP hD hS => ?_)
  replace hq0 : BoxC v0.2 ∧ (Fr [(0, 17), (2, 9999), (77, 9999)] oC v0.2) := hq0
  replace invC : INVC v0.2 (B + 740000) := invC.fr hB0 hq0.1 hq0.2 rfl rfl (fun _ => rfl) (fun _ => rfl) (fun _ => rfl) (fun _ => rfl) (fun _ => rfl) (fun _ => rfl)
  refine lv_pop hx hb gdL_law_349 rfl ?_
  refine lv_aload_n hx hb gdL_law_350 rfl (lv_at hl 1 rfl) ?_
  refine lv_aload_n hx hb gdL_law_351 rfl (lv_at hl 3 rfl) ?_
  refine lv_iload_n hx hb gdL_law_352 rfl (lv_at hl 0 rfl) ?_
  refine lv_iconst (v := Int32.ofInt 1) hx hb gdL_law_353 rfl ?_
  refine lv_iadd hx hb gdL_law_354 (lv_topk (oi_add i 1) ?_)
  refine va_sld hx hb hX hbl hbA hS (vin (by omega) (by omega) hL) gdL_law_355 ?_
  refine lv_topk (scr_i scr i 1) ?_
  obtain ⟨v1, hv1, hq1⟩ := t_X12_tear oM (scr_ scr i 1) invM.1 (by omega)
  refine kMi (oC := v0.2) (oM := oM) X (c_X12_tear l g adM oM (scr_ scr i 1) v1 hv1) rfl okm_X12_tear okw_X12_tear w_1720 rfl hK hP hD hS hA hZ hl.1 rfl (Nat.le_of_ble_eq_true rfl) ⟨(Nat.le_of_ble_eq_true rfl), (Nat.le_of_ble_eq_true rfl)⟩ gdL_law_356 hcs (fun H locs hP hD hS => ?_)
  replace hq1 : BoxM v1.2 ∧ (Fr [(0, 0), (1, 9999), (2, 9999)] oM v1.2) := hq1
  replace invM : INVM v1.2 := invM.fr hq1.1 hq1.2 rfl rfl (fun _ => rfl)
  have hsp : v0.1 = v1.1 ∧ SH3 v0.2 v1.2 := SH3.tear hR.1 (bM_2 iM0.1) (ra_tear_C (BC10 iC0.1) (scr_ scr i 1) _ hv0) (ra_tear_M oM (scr_ scr i 1) _ hv1)
  refine lv_pop hx hb gdL_law_359 rfl ?_
  refine lv_goto (tgt := 1952) hx hb gdL_law_360 (by decide) ?_
  have hR9 : REL v0.2 v1.2 := ⟨hsp.2, hR.2.1.fr hq0.2 hq1.2 (fun _ => rfl) (fun _ => rfl) (fun _ => rfl) (fun _ => rfl), day_fr hR.2.2.1 hq0.2 hq1.2 rfl rfl, hR.2.2.2.1.fr hq0.2 hq1.2 rfl rfl (fun _ => rfl) (fun _ => rfl) (fun _ => rfl) (fun _ => rfl) (fun _ => rfl) (fun _ => rfl), hR.2.2.2.2.fr hq0.2 hq1.2 rfl rfl (fun _ => rfl) (fun _ => rfl)⟩
  exact kend v0.2 v1.2 _ _ _ invC invM hR9 hP hD hS hl
set_option maxHeartbeats 4000000 in
set_option maxRecDepth 100000 in
theorem law_3 (l : Launch) (g : GG) {p : Program} {e : Env} {s : State} {m : MethodId} {below : List Frame} {meth : Method} {c : Code} {b L : Nat} {scr : Nat → Int32} {A : Nat → Prop} {Q : State → Prop} {cells slots : Nat} {H : Heap} {locs : List Loc} {ls : Array Slot} {adC adM : Nat → Nat} {oC oM : OO} {B i : Int} (X : En p s m #[Value.ref b] meth c cL_law 4 ret R_law meth.name) (hK : va_K g.1 classes (tyG g) s) (hA : ∀ q, s.heap.size ≤ q → A q) (hZ : stS g A s s.heap) (hX : va_X b L scr s s.heap) (hbl : b < s.heap.size) (hbA : ¬ A b) (hcs : cells + 0 ≤ room_1.cells ∧ slots + 0 ≤ room_1.slots) (hL : L ≤ 3072) (i0 : 0 ≤ i) (i1 : i + 6 ≤ (L : Int)) (hB0 : 0 ≤ B) (hB1 : B ≤ 379000000) (invC : INVC oC B) (invM : INVM oM) (hR : REL oC oM) (hP : va_P g.1 classes (wC g adC oC ++ wM g adM oM) H) (hD : va_D A (wC g adC oC ++ wM g adM oM)) (hS : va_S A s.heap H locs) (hl : lv_has ls 4 [(3, iv i), (2, .ref (adM 0)), (1, .ref (adC 0)), (0, .ref b)])
    (kend : ∀ (oC oM : OO) (H : Heap) (locs : List Loc) (ls : Array Slot), INVC oC (B + 740000) → INVM oM → REL oC oM → va_P g.1 classes (wC g adC oC ++ wM g adM oM) H → va_D A (wC g adC oC ++ wM g adM oM) → va_S A s.heap H locs → lv_has ls 4 [(3, iv i), (2, .ref (adM 0)), (1, .ref (adC 0)), (0, .ref b)] → W p l e room_1 s m #[Value.ref b] below meth c H locs cells slots Q (F0 m 1952 ls [])) : W p l e room_1 s m #[Value.ref b] below meth c H locs cells slots Q (F0 m 363 ls []) := by
  have hx := X.1
  have hb := X.2.1
  have sr1 := scr_R scr i 1
  have sr2 := scr_R scr i 2
  have sr3 := scr_R scr i 3
  have sr4 := scr_R scr i 4
  have sr5 := scr_R scr i 5
  have iC0 := invC
  have iM0 := invM
  refine lv_aload_n hx hb gdL_law_363 rfl (lv_at hl 2 rfl) ?_
  refine lv_aload_n hx hb gdL_law_364 rfl (lv_at hl 3 rfl) ?_
  refine lv_iload_n hx hb gdL_law_365 rfl (lv_at hl 0 rfl) ?_
  refine lv_iconst (v := Int32.ofInt 1) hx hb gdL_law_366 rfl ?_
  refine lv_iadd hx hb gdL_law_367 (lv_topk (oi_add i 1) ?_)
  refine va_sld hx hb hX hbl hbA hS (vin (by omega) (by omega) hL) gdL_law_368 ?_
  refine lv_topk (scr_i scr i 1) ?_
  refine lv_aload_n hx hb gdL_law_369 rfl (lv_at hl 3 rfl) ?_
  refine lv_iload_n hx hb gdL_law_370 rfl (lv_at hl 0 rfl) ?_
  refine lv_iconst (v := Int32.ofInt 2) hx hb gdL_law_371 rfl ?_
  refine lv_iadd hx hb gdL_law_372 (lv_topk (oi_add i 2) ?_)
  refine va_sld hx hb hX hbl hbA hS (vin (by omega) (by omega) hL) gdL_law_373 ?_
  refine lv_topk (scr_i scr i 2) ?_
  refine lv_aload_n hx hb gdL_law_374 rfl (lv_at hl 3 rfl) ?_
  refine lv_iload_n hx hb gdL_law_375 rfl (lv_at hl 0 rfl) ?_
  refine lv_iconst (v := Int32.ofInt 3) hx hb gdL_law_376 rfl ?_
  refine lv_iadd hx hb gdL_law_377 (lv_topk (oi_add i 3) ?_)
  refine va_sld hx hb hX hbl hbA hS (vin (by omega) (by omega) hL) gdL_law_378 ?_
  refine lv_topk (scr_i scr i 3) ?_
  refine lv_aload_n hx hb gdL_law_379 rfl (lv_at hl 3 rfl) ?_
  refine lv_iload_n hx hb gdL_law_380 rfl (lv_at hl 0 rfl) ?_
  refine lv_iconst (v := Int32.ofInt 4) hx hb gdL_law_381 rfl ?_
  refine lv_iadd hx hb gdL_law_382 (lv_topk (oi_add i 4) ?_)
  refine va_sld hx hb hX hbl hbA hS (vin (by omega) (by omega) hL) gdL_law_383 ?_
  refine lv_topk (scr_i scr i 4) ?_
  refine lv_aload_n hx hb gdL_law_384 rfl (lv_at hl 3 rfl) ?_
  refine lv_iload_n hx hb gdL_law_385 rfl (lv_at hl 0 rfl) ?_
  refine lv_iconst (v := Int32.ofInt 5) hx hb gdL_law_386 rfl ?_
  refine lv_iadd hx hb gdL_law_387 (lv_topk (oi_add i 5) ?_)
  refine va_sld hx hb hX hbl hbA hS (vin (by omega) (by omega) hL) gdL_law_388 ?_
  refine lv_topk (scr_i scr i 5) ?_
  obtain ⟨v0, hv0, hq0⟩ := t_X11_copy oC (scr_ scr i 1) (scr_ scr i 2) (scr_ scr i 3) (scr_ scr i 4) (scr_ scr i 5) invC.1 (by omega) (by omega) (by omega) (by omega) (by omega)
  refine kCi (oC := oC) (oM := oM) X (c_X11_copy l g adC oC (scr_ scr i 1) (scr_ scr i 2) (scr_ scr i 3) (scr_ scr i 4) (scr_ scr i 5) v0 hv0) rfl okm_X11_copy okw_X11_copy w_563 rfl hK hP hD hS hA hZ hl.1 rfl (Nat.le_of_ble_eq_true rfl) ⟨(Nat.le_of_ble_eq_true rfl), (Nat.le_of_ble_eq_true rfl)⟩ gdL_law_389 hcs (fun H locs hP hD hS => ?_)
  replace hq0 : BoxC v0.2 ∧ (Fr [(0, 17), (3, 9999), (77, 9999)] oC v0.2) := hq0
  replace invC : INVC v0.2 (B + 740000) := invC.fr hB0 hq0.1 hq0.2 rfl rfl (fun _ => rfl) (fun _ => rfl) (fun _ => rfl) (fun _ => rfl) (fun _ => rfl) (fun _ => rfl)
  refine lv_pop hx hb gdL_law_392 rfl ?_
  refine lv_aload_n hx hb gdL_law_393 rfl (lv_at hl 1 rfl) ?_
  refine lv_aload_n hx hb gdL_law_394 rfl (lv_at hl 3 rfl) ?_
  refine lv_iload_n hx hb gdL_law_395 rfl (lv_at hl 0 rfl) ?_
  refine lv_iconst (v := Int32.ofInt 1) hx hb gdL_law_396 rfl ?_
  refine lv_iadd hx hb gdL_law_397 (lv_topk (oi_add i 1) ?_)
  refine va_sld hx hb hX hbl hbA hS (vin (by omega) (by omega) hL) gdL_law_398 ?_
  refine lv_topk (scr_i scr i 1) ?_
  refine lv_aload_n hx hb gdL_law_399 rfl (lv_at hl 3 rfl) ?_
  refine lv_iload_n hx hb gdL_law_400 rfl (lv_at hl 0 rfl) ?_
  refine lv_iconst (v := Int32.ofInt 2) hx hb gdL_law_401 rfl ?_
  refine lv_iadd hx hb gdL_law_402 (lv_topk (oi_add i 2) ?_)
  refine va_sld hx hb hX hbl hbA hS (vin (by omega) (by omega) hL) gdL_law_403 ?_
  refine lv_topk (scr_i scr i 2) ?_
  refine lv_aload_n hx hb gdL_law_404 rfl (lv_at hl 3 rfl) ?_
  refine lv_iload_n hx hb gdL_law_405 rfl (lv_at hl 0 rfl) ?_
  refine lv_iconst (v := Int32.ofInt 3) hx hb gdL_law_406 rfl ?_
  refine lv_iadd hx hb gdL_law_407 (lv_topk (oi_add i 3) ?_)
  refine va_sld hx hb hX hbl hbA hS (vin (by omega) (by omega) hL) gdL_law_408 ?_
  refine lv_topk (scr_i scr i 3) ?_
  refine lv_aload_n hx hb gdL_law_409 rfl (lv_at hl 3 rfl) ?_
  refine lv_iload_n hx hb gdL_law_410 rfl (lv_at hl 0 rfl) ?_
  refine lv_iconst (v := Int32.ofInt 4) hx hb gdL_law_411 rfl ?_
  refine lv_iadd hx hb gdL_law_412 (lv_topk (oi_add i 4) ?_)
  refine va_sld hx hb hX hbl hbA hS (vin (by omega) (by omega) hL) gdL_law_413 ?_
  refine lv_topk (scr_i scr i 4) ?_
  refine lv_aload_n hx hb gdL_law_414 rfl (lv_at hl 3 rfl) ?_
  refine lv_iload_n hx hb gdL_law_415 rfl (lv_at hl 0 rfl) ?_
  refine lv_iconst (v := Int32.ofInt 5) hx hb gdL_law_416 rfl ?_
  refine lv_iadd hx hb gdL_law_417 (lv_topk (oi_add i 5) ?_)
  refine va_sld hx hb hX hbl hbA hS (vin (by omega) (by omega) hL) gdL_law_418 ?_
  refine lv_topk (scr_i scr i 5) ?_
  obtain ⟨v1, hv1, hq1⟩ := t_X12_copy oM (scr_ scr i 1) (scr_ scr i 2) (scr_ scr i 3) (scr_ scr i 4) (scr_ scr i 5) invM.1 (by omega) (by omega) (by omega) (by omega) (by omega)
  refine kMi (oC := v0.2) (oM := oM) X (c_X12_copy l g adM oM (scr_ scr i 1) (scr_ scr i 2) (scr_ scr i 3) (scr_ scr i 4) (scr_ scr i 5) v1 hv1) rfl okm_X12_copy okw_X12_copy w_1724 rfl hK hP hD hS hA hZ hl.1 rfl (Nat.le_of_ble_eq_true rfl) ⟨(Nat.le_of_ble_eq_true rfl), (Nat.le_of_ble_eq_true rfl)⟩ gdL_law_419 hcs (fun H locs hP hD hS => ?_)
  replace hq1 : BoxM v1.2 ∧ (Fr [(0, 0), (1, 9999), (3, 9999), (4, 9999)] oM v1.2) := hq1
  replace invM : INVM v1.2 := invM.fr hq1.1 hq1.2 rfl rfl (fun _ => rfl)
  have hsp : v0.1 = v1.1 ∧ SH3 v0.2 v1.2 := SH3.copy hR.1 (bM_2 iM0.1) (ra_copy_C (BC10 iC0.1) (scr_ scr i 1) (scr_ scr i 2) (scr_ scr i 3) (scr_ scr i 4) (scr_ scr i 5) _ hv0) (ra_copy_M (bM_2 iM0.1) (scr_R scr i 2) (scr_R scr i 4) (scr_R scr i 5) _ hv1)
  refine lv_pop hx hb gdL_law_422 rfl ?_
  refine lv_goto (tgt := 1952) hx hb gdL_law_423 (by decide) ?_
  have hR9 : REL v0.2 v1.2 := ⟨hsp.2, hR.2.1.fr hq0.2 hq1.2 (fun _ => rfl) (fun _ => rfl) (fun _ => rfl) (fun _ => rfl), day_fr hR.2.2.1 hq0.2 hq1.2 rfl rfl, hR.2.2.2.1.fr hq0.2 hq1.2 rfl rfl (fun _ => rfl) (fun _ => rfl) (fun _ => rfl) (fun _ => rfl) (fun _ => rfl) (fun _ => rfl), hR.2.2.2.2.fr hq0.2 hq1.2 rfl rfl (fun _ => rfl) (fun _ => rfl)⟩
  exact kend v0.2 v1.2 _ _ _ invC invM hR9 hP hD hS hl
set_option maxHeartbeats 4000000 in
set_option maxRecDepth 100000 in
theorem law_4 (l : Launch) (g : GG) {p : Program} {e : Env} {s : State} {m : MethodId} {below : List Frame} {meth : Method} {c : Code} {b L : Nat} {scr : Nat → Int32} {A : Nat → Prop} {Q : State → Prop} {cells slots : Nat} {H : Heap} {locs : List Loc} {ls : Array Slot} {adC adM : Nat → Nat} {oC oM : OO} {B i : Int} (X : En p s m #[Value.ref b] meth c cL_law 4 ret R_law meth.name) (hK : va_K g.1 classes (tyG g) s) (hA : ∀ q, s.heap.size ≤ q → A q) (hZ : stS g A s s.heap) (hX : va_X b L scr s s.heap) (hbl : b < s.heap.size) (hbA : ¬ A b) (hcs : cells + 0 ≤ room_1.cells ∧ slots + 0 ≤ room_1.slots) (hL : L ≤ 3072) (i0 : 0 ≤ i) (i1 : i + 6 ≤ (L : Int)) (hB0 : 0 ≤ B) (hB1 : B ≤ 379000000) (invC : INVC oC B) (invM : INVM oM) (hR : REL oC oM) (hP : va_P g.1 classes (wC g adC oC ++ wM g adM oM) H) (hD : va_D A (wC g adC oC ++ wM g adM oM)) (hS : va_S A s.heap H locs) (hl : lv_has ls 4 [(3, iv i), (2, .ref (adM 0)), (1, .ref (adC 0)), (0, .ref b)])
    (kend : ∀ (oC oM : OO) (H : Heap) (locs : List Loc) (ls : Array Slot), INVC oC (B + 740000) → INVM oM → REL oC oM → va_P g.1 classes (wC g adC oC ++ wM g adM oM) H → va_D A (wC g adC oC ++ wM g adM oM) → va_S A s.heap H locs → lv_has ls 4 [(3, iv i), (2, .ref (adM 0)), (1, .ref (adC 0)), (0, .ref b)] → W p l e room_1 s m #[Value.ref b] below meth c H locs cells slots Q (F0 m 1952 ls [])) : W p l e room_1 s m #[Value.ref b] below meth c H locs cells slots Q (F0 m 426 ls []) := by
  have hx := X.1
  have hb := X.2.1
  have sr1 := scr_R scr i 1
  have sr2 := scr_R scr i 2
  have sr3 := scr_R scr i 3
  have sr4 := scr_R scr i 4
  have sr5 := scr_R scr i 5
  have iC0 := invC
  have iM0 := invM
  refine lv_aload_n hx hb gdL_law_426 rfl (lv_at hl 2 rfl) ?_
  refine lv_aload_n hx hb gdL_law_427 rfl (lv_at hl 3 rfl) ?_
  refine lv_iload_n hx hb gdL_law_428 rfl (lv_at hl 0 rfl) ?_
  refine lv_iconst (v := Int32.ofInt 1) hx hb gdL_law_429 rfl ?_
  refine lv_iadd hx hb gdL_law_430 (lv_topk (oi_add i 1) ?_)
  refine va_sld hx hb hX hbl hbA hS (vin (by omega) (by omega) hL) gdL_law_431 ?_
  refine lv_topk (scr_i scr i 1) ?_
  refine lv_aload_n hx hb gdL_law_432 rfl (lv_at hl 3 rfl) ?_
  refine lv_iload_n hx hb gdL_law_433 rfl (lv_at hl 0 rfl) ?_
  refine lv_iconst (v := Int32.ofInt 2) hx hb gdL_law_434 rfl ?_
  refine lv_iadd hx hb gdL_law_435 (lv_topk (oi_add i 2) ?_)
  refine va_sld hx hb hX hbl hbA hS (vin (by omega) (by omega) hL) gdL_law_436 ?_
  refine lv_topk (scr_i scr i 2) ?_
  obtain ⟨v0, hv0, hq0⟩ := t_X11_text oC (scr_ scr i 1) (scr_ scr i 2) invC.1 (by omega) (by omega)
  refine kCi (oC := oC) (oM := oM) X (c_X11_text l g adC oC (scr_ scr i 1) (scr_ scr i 2) v0 hv0) rfl okm_X11_text okw_X11_text w_578 rfl hK hP hD hS hA hZ hl.1 rfl (Nat.le_of_ble_eq_true rfl) ⟨(Nat.le_of_ble_eq_true rfl), (Nat.le_of_ble_eq_true rfl)⟩ gdL_law_437 hcs (fun H locs hP hD hS => ?_)
  replace hq0 : BoxC v0.2 ∧ (Fr [(0, 17), (5, 9999), (6, 9999), (77, 9999)] oC v0.2) := hq0
  replace invC : INVC v0.2 (B + 740000) := invC.fr hB0 hq0.1 hq0.2 rfl rfl (fun _ => rfl) (fun _ => rfl) (fun _ => rfl) (fun _ => rfl) (fun _ => rfl) (fun _ => rfl)
  refine lv_pop hx hb gdL_law_440 rfl ?_
  refine lv_aload_n hx hb gdL_law_441 rfl (lv_at hl 1 rfl) ?_
  refine lv_aload_n hx hb gdL_law_442 rfl (lv_at hl 3 rfl) ?_
  refine lv_iload_n hx hb gdL_law_443 rfl (lv_at hl 0 rfl) ?_
  refine lv_iconst (v := Int32.ofInt 1) hx hb gdL_law_444 rfl ?_
  refine lv_iadd hx hb gdL_law_445 (lv_topk (oi_add i 1) ?_)
  refine va_sld hx hb hX hbl hbA hS (vin (by omega) (by omega) hL) gdL_law_446 ?_
  refine lv_topk (scr_i scr i 1) ?_
  refine lv_aload_n hx hb gdL_law_447 rfl (lv_at hl 3 rfl) ?_
  refine lv_iload_n hx hb gdL_law_448 rfl (lv_at hl 0 rfl) ?_
  refine lv_iconst (v := Int32.ofInt 2) hx hb gdL_law_449 rfl ?_
  refine lv_iadd hx hb gdL_law_450 (lv_topk (oi_add i 2) ?_)
  refine va_sld hx hb hX hbl hbA hS (vin (by omega) (by omega) hL) gdL_law_451 ?_
  refine lv_topk (scr_i scr i 2) ?_
  obtain ⟨v1, hv1, hq1⟩ := t_X12_text oM (scr_ scr i 1) (scr_ scr i 2) invM.1 (by omega) (by omega)
  refine kMi (oC := v0.2) (oM := oM) X (c_X12_text l g adM oM (scr_ scr i 1) (scr_ scr i 2) v1 hv1) rfl okm_X12_text okw_X12_text w_1728 rfl hK hP hD hS hA hZ hl.1 rfl (Nat.le_of_ble_eq_true rfl) ⟨(Nat.le_of_ble_eq_true rfl), (Nat.le_of_ble_eq_true rfl)⟩ gdL_law_452 hcs (fun H locs hP hD hS => ?_)
  replace hq1 : BoxM v1.2 ∧ (Fr [(0, 0), (1, 9999), (5, 9999), (6, 9999)] oM v1.2) := hq1
  replace invM : INVM v1.2 := invM.fr hq1.1 hq1.2 rfl rfl (fun _ => rfl)
  have hsp : v0.1 = v1.1 ∧ SH6 v0.2 v1.2 := SH6.lay (w := 0) hR.2.1 (fun r => (bM_5 iM0.1 r).2) (ra_text_C (BC40 iC0.1) (BC41 iC0.1) (scr_ scr i 1) (scr_ scr i 2) _ hv0) (ra_text_M oM (scr_ scr i 1) (scr_ scr i 2) _ hv1)
  refine lv_pop hx hb gdL_law_455 rfl ?_
  refine lv_goto (tgt := 1952) hx hb gdL_law_456 (by decide) ?_
  have hR9 : REL v0.2 v1.2 := ⟨hR.1.fr hq0.2 hq1.2 (fun _ => rfl) (fun _ => rfl) (fun _ => rfl) (fun _ => rfl), hsp.2, day_fr hR.2.2.1 hq0.2 hq1.2 rfl rfl, hR.2.2.2.1.fr hq0.2 hq1.2 rfl rfl (fun _ => rfl) (fun _ => rfl) (fun _ => rfl) (fun _ => rfl) (fun _ => rfl) (fun _ => rfl), hR.2.2.2.2.fr hq0.2 hq1.2 rfl rfl (fun _ => rfl) (fun _ => rfl)⟩
  exact kend v0.2 v1.2 _ _ _ invC invM hR9 hP hD hS hl
set_option maxHeartbeats 4000000 in
set_option maxRecDepth 100000 in
theorem law_5 (l : Launch) (g : GG) {p : Program} {e : Env} {s : State} {m : MethodId} {below : List Frame} {meth : Method} {c : Code} {b L : Nat} {scr : Nat → Int32} {A : Nat → Prop} {Q : State → Prop} {cells slots : Nat} {H : Heap} {locs : List Loc} {ls : Array Slot} {adC adM : Nat → Nat} {oC oM : OO} {B i : Int} (X : En p s m #[Value.ref b] meth c cL_law 4 ret R_law meth.name) (hK : va_K g.1 classes (tyG g) s) (hA : ∀ q, s.heap.size ≤ q → A q) (hZ : stS g A s s.heap) (hX : va_X b L scr s s.heap) (hbl : b < s.heap.size) (hbA : ¬ A b) (hcs : cells + 0 ≤ room_1.cells ∧ slots + 0 ≤ room_1.slots) (hL : L ≤ 3072) (i0 : 0 ≤ i) (i1 : i + 6 ≤ (L : Int)) (hB0 : 0 ≤ B) (hB1 : B ≤ 379000000) (invC : INVC oC B) (invM : INVM oM) (hR : REL oC oM) (hP : va_P g.1 classes (wC g adC oC ++ wM g adM oM) H) (hD : va_D A (wC g adC oC ++ wM g adM oM)) (hS : va_S A s.heap H locs) (hl : lv_has ls 4 [(3, iv i), (2, .ref (adM 0)), (1, .ref (adC 0)), (0, .ref b)])
    (kend : ∀ (oC oM : OO) (H : Heap) (locs : List Loc) (ls : Array Slot), INVC oC (B + 740000) → INVM oM → REL oC oM → va_P g.1 classes (wC g adC oC ++ wM g adM oM) H → va_D A (wC g adC oC ++ wM g adM oM) → va_S A s.heap H locs → lv_has ls 4 [(3, iv i), (2, .ref (adM 0)), (1, .ref (adC 0)), (0, .ref b)] → W p l e room_1 s m #[Value.ref b] below meth c H locs cells slots Q (F0 m 1952 ls [])) : W p l e room_1 s m #[Value.ref b] below meth c H locs cells slots Q (F0 m 459 ls []) := by
  have hx := X.1
  have hb := X.2.1
  have sr1 := scr_R scr i 1
  have sr2 := scr_R scr i 2
  have sr3 := scr_R scr i 3
  have sr4 := scr_R scr i 4
  have sr5 := scr_R scr i 5
  have iC0 := invC
  have iM0 := invM
  refine lv_aload_n hx hb gdL_law_459 rfl (lv_at hl 2 rfl) ?_
  refine lv_aload_n hx hb gdL_law_460 rfl (lv_at hl 3 rfl) ?_
  refine lv_iload_n hx hb gdL_law_461 rfl (lv_at hl 0 rfl) ?_
  refine lv_iconst (v := Int32.ofInt 1) hx hb gdL_law_462 rfl ?_
  refine lv_iadd hx hb gdL_law_463 (lv_topk (oi_add i 1) ?_)
  refine va_sld hx hb hX hbl hbA hS (vin (by omega) (by omega) hL) gdL_law_464 ?_
  refine lv_topk (scr_i scr i 1) ?_
  refine lv_aload_n hx hb gdL_law_465 rfl (lv_at hl 3 rfl) ?_
  refine lv_iload_n hx hb gdL_law_466 rfl (lv_at hl 0 rfl) ?_
  refine lv_iconst (v := Int32.ofInt 2) hx hb gdL_law_467 rfl ?_
  refine lv_iadd hx hb gdL_law_468 (lv_topk (oi_add i 2) ?_)
  refine va_sld hx hb hX hbl hbA hS (vin (by omega) (by omega) hL) gdL_law_469 ?_
  refine lv_topk (scr_i scr i 2) ?_
  refine lv_aload_n hx hb gdL_law_470 rfl (lv_at hl 3 rfl) ?_
  refine lv_iload_n hx hb gdL_law_471 rfl (lv_at hl 0 rfl) ?_
  refine lv_iconst (v := Int32.ofInt 3) hx hb gdL_law_472 rfl ?_
  refine lv_iadd hx hb gdL_law_473 (lv_topk (oi_add i 3) ?_)
  refine va_sld hx hb hX hbl hbA hS (vin (by omega) (by omega) hL) gdL_law_474 ?_
  refine lv_topk (scr_i scr i 3) ?_
  obtain ⟨v0, hv0, hq0⟩ := t_X11_put oC (scr_ scr i 1) (scr_ scr i 2) (scr_ scr i 3) invC.1 (by omega) (by omega) (by omega)
  refine kCi (oC := oC) (oM := oM) X (c_X11_put l g adC oC (scr_ scr i 1) (scr_ scr i 2) (scr_ scr i 3) v0 hv0) rfl okm_X11_put okw_X11_put w_582 rfl hK hP hD hS hA hZ hl.1 rfl (Nat.le_of_ble_eq_true rfl) ⟨(Nat.le_of_ble_eq_true rfl), (Nat.le_of_ble_eq_true rfl)⟩ gdL_law_475 hcs (fun H locs hP hD hS => ?_)
  replace hq0 : BoxC v0.2 ∧ (Fr [(0, 17), (6, 9999), (77, 9999)] oC v0.2) := hq0
  replace invC : INVC v0.2 (B + 740000) := invC.fr hB0 hq0.1 hq0.2 rfl rfl (fun _ => rfl) (fun _ => rfl) (fun _ => rfl) (fun _ => rfl) (fun _ => rfl) (fun _ => rfl)
  refine lv_pop hx hb gdL_law_478 rfl ?_
  refine lv_aload_n hx hb gdL_law_479 rfl (lv_at hl 1 rfl) ?_
  refine lv_aload_n hx hb gdL_law_480 rfl (lv_at hl 3 rfl) ?_
  refine lv_iload_n hx hb gdL_law_481 rfl (lv_at hl 0 rfl) ?_
  refine lv_iconst (v := Int32.ofInt 1) hx hb gdL_law_482 rfl ?_
  refine lv_iadd hx hb gdL_law_483 (lv_topk (oi_add i 1) ?_)
  refine va_sld hx hb hX hbl hbA hS (vin (by omega) (by omega) hL) gdL_law_484 ?_
  refine lv_topk (scr_i scr i 1) ?_
  refine lv_aload_n hx hb gdL_law_485 rfl (lv_at hl 3 rfl) ?_
  refine lv_iload_n hx hb gdL_law_486 rfl (lv_at hl 0 rfl) ?_
  refine lv_iconst (v := Int32.ofInt 2) hx hb gdL_law_487 rfl ?_
  refine lv_iadd hx hb gdL_law_488 (lv_topk (oi_add i 2) ?_)
  refine va_sld hx hb hX hbl hbA hS (vin (by omega) (by omega) hL) gdL_law_489 ?_
  refine lv_topk (scr_i scr i 2) ?_
  refine lv_aload_n hx hb gdL_law_490 rfl (lv_at hl 3 rfl) ?_
  refine lv_iload_n hx hb gdL_law_491 rfl (lv_at hl 0 rfl) ?_
  refine lv_iconst (v := Int32.ofInt 3) hx hb gdL_law_492 rfl ?_
  refine lv_iadd hx hb gdL_law_493 (lv_topk (oi_add i 3) ?_)
  refine va_sld hx hb hX hbl hbA hS (vin (by omega) (by omega) hL) gdL_law_494 ?_
  refine lv_topk (scr_i scr i 3) ?_
  obtain ⟨v1, hv1, hq1⟩ := t_X12_put oM (scr_ scr i 1) (scr_ scr i 2) (scr_ scr i 3) invM.1 (by omega) (by omega) (by omega)
  refine kMi (oC := v0.2) (oM := oM) X (c_X12_put l g adM oM (scr_ scr i 1) (scr_ scr i 2) (scr_ scr i 3) v1 hv1) rfl okm_X12_put okw_X12_put w_1735 rfl hK hP hD hS hA hZ hl.1 rfl (Nat.le_of_ble_eq_true rfl) ⟨(Nat.le_of_ble_eq_true rfl), (Nat.le_of_ble_eq_true rfl)⟩ gdL_law_495 hcs (fun H locs hP hD hS => ?_)
  replace hq1 : BoxM v1.2 ∧ (Fr [(0, 0), (1, 9999), (6, 9999)] oM v1.2) := hq1
  replace invM : INVM v1.2 := invM.fr hq1.1 hq1.2 rfl rfl (fun _ => rfl)
  have hsp : v0.1 = v1.1 ∧ SH6 v0.2 v1.2 := SH6.ex hR.2.1 (bM_5 iM0.1) (ra_put_C (BC40 iC0.1) (scr_ scr i 1) (scr_ scr i 2) (scr_ scr i 3) _ hv0) (ra_put_M oM (scr_ scr i 1) (scr_ scr i 2) (scr_ scr i 3) _ hv1)
  refine lv_pop hx hb gdL_law_498 rfl ?_
  refine lv_goto (tgt := 1952) hx hb gdL_law_499 (by decide) ?_
  have hR9 : REL v0.2 v1.2 := ⟨hR.1.fr hq0.2 hq1.2 (fun _ => rfl) (fun _ => rfl) (fun _ => rfl) (fun _ => rfl), hsp.2, day_fr hR.2.2.1 hq0.2 hq1.2 rfl rfl, hR.2.2.2.1.fr hq0.2 hq1.2 rfl rfl (fun _ => rfl) (fun _ => rfl) (fun _ => rfl) (fun _ => rfl) (fun _ => rfl) (fun _ => rfl), hR.2.2.2.2.fr hq0.2 hq1.2 rfl rfl (fun _ => rfl) (fun _ => rfl)⟩
  exact kend v0.2 v1.2 _ _ _ invC invM hR9 hP hD hS hl
set_option maxHeartbeats 4000000 in
set_option maxRecDepth 100000 in
theorem law_6 (l : Launch) (g : GG) {p : Program} {e : Env} {s : State} {m : MethodId} {below : List Frame} {meth : Method} {c : Code} {b L : Nat} {scr : Nat → Int32} {A : Nat → Prop} {Q : State → Prop} {cells slots : Nat} {H : Heap} {locs : List Loc} {ls : Array Slot} {adC adM : Nat → Nat} {oC oM : OO} {B i : Int} (X : En p s m #[Value.ref b] meth c cL_law 4 ret R_law meth.name) (hK : va_K g.1 classes (tyG g) s) (hA : ∀ q, s.heap.size ≤ q → A q) (hZ : stS g A s s.heap) (hX : va_X b L scr s s.heap) (hbl : b < s.heap.size) (hbA : ¬ A b) (hcs : cells + 0 ≤ room_1.cells ∧ slots + 0 ≤ room_1.slots) (hL : L ≤ 3072) (i0 : 0 ≤ i) (i1 : i + 6 ≤ (L : Int)) (hB0 : 0 ≤ B) (hB1 : B ≤ 379000000) (invC : INVC oC B) (invM : INVM oM) (hR : REL oC oM) (hP : va_P g.1 classes (wC g adC oC ++ wM g adM oM) H) (hD : va_D A (wC g adC oC ++ wM g adM oM)) (hS : va_S A s.heap H locs) (hl : lv_has ls 4 [(3, iv i), (2, .ref (adM 0)), (1, .ref (adC 0)), (0, .ref b)])
    (kend : ∀ (oC oM : OO) (H : Heap) (locs : List Loc) (ls : Array Slot), INVC oC (B + 740000) → INVM oM → REL oC oM → va_P g.1 classes (wC g adC oC ++ wM g adM oM) H → va_D A (wC g adC oC ++ wM g adM oM) → va_S A s.heap H locs → lv_has ls 4 [(3, iv i), (2, .ref (adM 0)), (1, .ref (adC 0)), (0, .ref b)] → W p l e room_1 s m #[Value.ref b] below meth c H locs cells slots Q (F0 m 1952 ls [])) : W p l e room_1 s m #[Value.ref b] below meth c H locs cells slots Q (F0 m 502 ls []) := by
  have hx := X.1
  have hb := X.2.1
  have sr1 := scr_R scr i 1
  have sr2 := scr_R scr i 2
  have sr3 := scr_R scr i 3
  have sr4 := scr_R scr i 4
  have sr5 := scr_R scr i 5
  have iC0 := invC
  have iM0 := invM
  refine lv_aload_n hx hb gdL_law_502 rfl (lv_at hl 2 rfl) ?_
  refine lv_aload_n hx hb gdL_law_503 rfl (lv_at hl 3 rfl) ?_
  refine lv_iload_n hx hb gdL_law_504 rfl (lv_at hl 0 rfl) ?_
  refine lv_iconst (v := Int32.ofInt 1) hx hb gdL_law_505 rfl ?_
  refine lv_iadd hx hb gdL_law_506 (lv_topk (oi_add i 1) ?_)
  refine va_sld hx hb hX hbl hbA hS (vin (by omega) (by omega) hL) gdL_law_507 ?_
  refine lv_topk (scr_i scr i 1) ?_
  obtain ⟨v0, hv0, hq0⟩ := t_X11_fault oC (scr_ scr i 1) invC.1 (by omega)
  refine kCi (oC := oC) (oM := oM) X (c_X11_fault l g adC oC (scr_ scr i 1) v0 hv0) rfl okm_X11_fault okw_X11_fault w_586 rfl hK hP hD hS hA hZ hl.1 rfl (Nat.le_of_ble_eq_true rfl) ⟨(Nat.le_of_ble_eq_true rfl), (Nat.le_of_ble_eq_true rfl)⟩ gdL_law_508 hcs (fun H locs hP hD hS => ?_)
  replace hq0 : BoxC v0.2 ∧ (Fr [(0, 17), (77, 9999)] oC v0.2) := hq0
  replace invC : INVC v0.2 (B + 740000) := invC.fr hB0 hq0.1 hq0.2 rfl rfl (fun _ => rfl) (fun _ => rfl) (fun _ => rfl) (fun _ => rfl) (fun _ => rfl) (fun _ => rfl)
  refine lv_pop hx hb gdL_law_511 rfl ?_
  refine lv_aload_n hx hb gdL_law_512 rfl (lv_at hl 1 rfl) ?_
  refine lv_aload_n hx hb gdL_law_513 rfl (lv_at hl 3 rfl) ?_
  refine lv_iload_n hx hb gdL_law_514 rfl (lv_at hl 0 rfl) ?_
  refine lv_iconst (v := Int32.ofInt 1) hx hb gdL_law_515 rfl ?_
  refine lv_iadd hx hb gdL_law_516 (lv_topk (oi_add i 1) ?_)
  refine va_sld hx hb hX hbl hbA hS (vin (by omega) (by omega) hL) gdL_law_517 ?_
  refine lv_topk (scr_i scr i 1) ?_
  obtain ⟨v1, hv1, hq1⟩ := t_X12_fault oM (scr_ scr i 1) invM.1 (by omega)
  refine kMi (oC := v0.2) (oM := oM) X (c_X12_fault l g adM oM (scr_ scr i 1) v1 hv1) rfl okm_X12_fault okw_X12_fault w_1747 rfl hK hP hD hS hA hZ hl.1 rfl (Nat.le_of_ble_eq_true rfl) ⟨(Nat.le_of_ble_eq_true rfl), (Nat.le_of_ble_eq_true rfl)⟩ gdL_law_518 hcs (fun H locs hP hD hS => ?_)
  replace hq1 : BoxM v1.2 ∧ (Fr [(0, 0), (1, 9999), (10, 9999)] oM v1.2) := hq1
  replace invM : INVM v1.2 := invM.fr hq1.1 hq1.2 rfl rfl (fun _ => rfl)
  have hsp : v0.1 = v1.1 := SH6.fault hR.2.1 (ra_fault_C (BC40 iC0.1) (fun r => (bC_5 iC0.1 r).2) (scr_ scr i 1) _ hv0) (ra_fault_M (fun r => (bM_5 iM0.1 r).2) (scr_ scr i 1) _ hv1)
  refine lv_pop hx hb gdL_law_521 rfl ?_
  refine lv_goto (tgt := 1952) hx hb gdL_law_522 (by decide) ?_
  have hR9 : REL v0.2 v1.2 := ⟨hR.1.fr hq0.2 hq1.2 (fun _ => rfl) (fun _ => rfl) (fun _ => rfl) (fun _ => rfl), hR.2.1.fr hq0.2 hq1.2 (fun _ => rfl) (fun _ => rfl) (fun _ => rfl) (fun _ => rfl), day_fr hR.2.2.1 hq0.2 hq1.2 rfl rfl, hR.2.2.2.1.fr hq0.2 hq1.2 rfl rfl (fun _ => rfl) (fun _ => rfl) (fun _ => rfl) (fun _ => rfl) (fun _ => rfl) (fun _ => rfl), hR.2.2.2.2.fr hq0.2 hq1.2 rfl rfl (fun _ => rfl) (fun _ => rfl)⟩
  exact kend v0.2 v1.2 _ _ _ invC invM hR9 hP hD hS hl
set_option maxHeartbeats 4000000 in
set_option maxRecDepth 100000 in
theorem law_7 (l : Launch) (g : GG) {p : Program} {e : Env} {s : State} {m : MethodId} {below : List Frame} {meth : Method} {c : Code} {b L : Nat} {scr : Nat → Int32} {A : Nat → Prop} {Q : State → Prop} {cells slots : Nat} {H : Heap} {locs : List Loc} {ls : Array Slot} {adC adM : Nat → Nat} {oC oM : OO} {B i : Int} (X : En p s m #[Value.ref b] meth c cL_law 4 ret R_law meth.name) (hK : va_K g.1 classes (tyG g) s) (hA : ∀ q, s.heap.size ≤ q → A q) (hZ : stS g A s s.heap) (hX : va_X b L scr s s.heap) (hbl : b < s.heap.size) (hbA : ¬ A b) (hcs : cells + 0 ≤ room_1.cells ∧ slots + 0 ≤ room_1.slots) (hL : L ≤ 3072) (i0 : 0 ≤ i) (i1 : i + 6 ≤ (L : Int)) (hB0 : 0 ≤ B) (hB1 : B ≤ 379000000) (invC : INVC oC B) (invM : INVM oM) (hR : REL oC oM) (hP : va_P g.1 classes (wC g adC oC ++ wM g adM oM) H) (hD : va_D A (wC g adC oC ++ wM g adM oM)) (hS : va_S A s.heap H locs) (hl : lv_has ls 4 [(3, iv i), (2, .ref (adM 0)), (1, .ref (adC 0)), (0, .ref b)])
    (kend : ∀ (oC oM : OO) (H : Heap) (locs : List Loc) (ls : Array Slot), INVC oC (B + 740000) → INVM oM → REL oC oM → va_P g.1 classes (wC g adC oC ++ wM g adM oM) H → va_D A (wC g adC oC ++ wM g adM oM) → va_S A s.heap H locs → lv_has ls 4 [(3, iv i), (2, .ref (adM 0)), (1, .ref (adC 0)), (0, .ref b)] → W p l e room_1 s m #[Value.ref b] below meth c H locs cells slots Q (F0 m 1952 ls [])) : W p l e room_1 s m #[Value.ref b] below meth c H locs cells slots Q (F0 m 525 ls []) := by
  have hx := X.1
  have hb := X.2.1
  have sr1 := scr_R scr i 1
  have sr2 := scr_R scr i 2
  have sr3 := scr_R scr i 3
  have sr4 := scr_R scr i 4
  have sr5 := scr_R scr i 5
  have iC0 := invC
  have iM0 := invM
  refine lv_aload_n hx hb gdL_law_525 rfl (lv_at hl 2 rfl) ?_
  refine lv_aload_n hx hb gdL_law_526 rfl (lv_at hl 3 rfl) ?_
  refine lv_iload_n hx hb gdL_law_527 rfl (lv_at hl 0 rfl) ?_
  refine lv_iconst (v := Int32.ofInt 1) hx hb gdL_law_528 rfl ?_
  refine lv_iadd hx hb gdL_law_529 (lv_topk (oi_add i 1) ?_)
  refine va_sld hx hb hX hbl hbA hS (vin (by omega) (by omega) hL) gdL_law_530 ?_
  refine lv_topk (scr_i scr i 1) ?_
  obtain ⟨v0, hv0, hq0⟩ := t_X11_later oC (scr_ scr i 1) invC.1 (by omega)
  refine kCi (oC := oC) (oM := oM) X (c_X11_later l g adC oC (scr_ scr i 1) v0 hv0) rfl okm_X11_later okw_X11_later w_613 rfl hK hP hD hS hA hZ hl.1 rfl (Nat.le_of_ble_eq_true rfl) ⟨(Nat.le_of_ble_eq_true rfl), (Nat.le_of_ble_eq_true rfl)⟩ gdL_law_531 hcs (fun H locs hP hD hS => ?_)
  replace hq0 : BoxC v0.2 ∧ (Fr [(0, 13)] oC v0.2) := hq0
  replace invC : INVC v0.2 (B + 740000) := invC.fr hB0 hq0.1 hq0.2 rfl rfl (fun _ => rfl) (fun _ => rfl) (fun _ => rfl) (fun _ => rfl) (fun _ => rfl) (fun _ => rfl)
  refine lv_pop hx hb gdL_law_534 rfl ?_
  refine lv_aload_n hx hb gdL_law_535 rfl (lv_at hl 1 rfl) ?_
  refine lv_aload_n hx hb gdL_law_536 rfl (lv_at hl 3 rfl) ?_
  refine lv_iload_n hx hb gdL_law_537 rfl (lv_at hl 0 rfl) ?_
  refine lv_iconst (v := Int32.ofInt 1) hx hb gdL_law_538 rfl ?_
  refine lv_iadd hx hb gdL_law_539 (lv_topk (oi_add i 1) ?_)
  refine va_sld hx hb hX hbl hbA hS (vin (by omega) (by omega) hL) gdL_law_540 ?_
  refine lv_topk (scr_i scr i 1) ?_
  obtain ⟨v1, hv1, hq1⟩ := t_X12_later oM (scr_ scr i 1) invM.1 (by omega)
  refine kMi (oC := v0.2) (oM := oM) X (c_X12_later l g adM oM (scr_ scr i 1) v1 hv1) rfl okm_X12_later okw_X12_later w_1743 rfl hK hP hD hS hA hZ hl.1 rfl (Nat.le_of_ble_eq_true rfl) ⟨(Nat.le_of_ble_eq_true rfl), (Nat.le_of_ble_eq_true rfl)⟩ gdL_law_541 hcs (fun H locs hP hD hS => ?_)
  replace hq1 : BoxM v1.2 ∧ (Fr [(0, 4)] oM v1.2) := hq1
  replace invM : INVM v1.2 := invM.fr hq1.1 hq1.2 rfl rfl (fun _ => rfl)
  have hsp : v0.1 = v1.1 ∧ v0.2.1 0 13 = v1.2.1 0 4 := later_rel hR.2.2.1 (ra_later_C oC (scr_ scr i 1) _ hv0) (ra_later_M oM (scr_ scr i 1) _ hv1)
  refine lv_pop hx hb gdL_law_544 rfl ?_
  refine lv_goto (tgt := 1952) hx hb gdL_law_545 (by decide) ?_
  have hR9 : REL v0.2 v1.2 := ⟨hR.1.fr hq0.2 hq1.2 (fun _ => rfl) (fun _ => rfl) (fun _ => rfl) (fun _ => rfl), hR.2.1.fr hq0.2 hq1.2 (fun _ => rfl) (fun _ => rfl) (fun _ => rfl) (fun _ => rfl), hsp.2, hR.2.2.2.1.fr hq0.2 hq1.2 rfl rfl (fun _ => rfl) (fun _ => rfl) (fun _ => rfl) (fun _ => rfl) (fun _ => rfl) (fun _ => rfl), hR.2.2.2.2.fr hq0.2 hq1.2 rfl rfl (fun _ => rfl) (fun _ => rfl)⟩
  exact kend v0.2 v1.2 _ _ _ invC invM hR9 hP hD hS hl
set_option maxHeartbeats 4000000 in
set_option maxRecDepth 100000 in
theorem law_8 (l : Launch) (g : GG) {p : Program} {e : Env} {s : State} {m : MethodId} {below : List Frame} {meth : Method} {c : Code} {b L : Nat} {scr : Nat → Int32} {A : Nat → Prop} {Q : State → Prop} {cells slots : Nat} {H : Heap} {locs : List Loc} {ls : Array Slot} {adC adM : Nat → Nat} {oC oM : OO} {B i : Int} (X : En p s m #[Value.ref b] meth c cL_law 4 ret R_law meth.name) (hK : va_K g.1 classes (tyG g) s) (hA : ∀ q, s.heap.size ≤ q → A q) (hZ : stS g A s s.heap) (hX : va_X b L scr s s.heap) (hbl : b < s.heap.size) (hbA : ¬ A b) (hcs : cells + 0 ≤ room_1.cells ∧ slots + 0 ≤ room_1.slots) (hL : L ≤ 3072) (i0 : 0 ≤ i) (i1 : i + 6 ≤ (L : Int)) (hB0 : 0 ≤ B) (hB1 : B ≤ 379000000) (invC : INVC oC B) (invM : INVM oM) (hR : REL oC oM) (hP : va_P g.1 classes (wC g adC oC ++ wM g adM oM) H) (hD : va_D A (wC g adC oC ++ wM g adM oM)) (hS : va_S A s.heap H locs) (hl : lv_has ls 4 [(3, iv i), (2, .ref (adM 0)), (1, .ref (adC 0)), (0, .ref b)])
    (kend : ∀ (oC oM : OO) (H : Heap) (locs : List Loc) (ls : Array Slot), INVC oC (B + 740000) → INVM oM → REL oC oM → va_P g.1 classes (wC g adC oC ++ wM g adM oM) H → va_D A (wC g adC oC ++ wM g adM oM) → va_S A s.heap H locs → lv_has ls 4 [(3, iv i), (2, .ref (adM 0)), (1, .ref (adC 0)), (0, .ref b)] → W p l e room_1 s m #[Value.ref b] below meth c H locs cells slots Q (F0 m 1952 ls [])) : W p l e room_1 s m #[Value.ref b] below meth c H locs cells slots Q (F0 m 548 ls []) := by
  have hx := X.1
  have hb := X.2.1
  have sr1 := scr_R scr i 1
  have sr2 := scr_R scr i 2
  have sr3 := scr_R scr i 3
  have sr4 := scr_R scr i 4
  have sr5 := scr_R scr i 5
  have iC0 := invC
  have iM0 := invM
  refine lv_aload_n hx hb gdL_law_548 rfl (lv_at hl 2 rfl) ?_
  refine lv_aload_n hx hb gdL_law_549 rfl (lv_at hl 3 rfl) ?_
  refine lv_iload_n hx hb gdL_law_550 rfl (lv_at hl 0 rfl) ?_
  refine lv_iconst (v := Int32.ofInt 1) hx hb gdL_law_551 rfl ?_
  refine lv_iadd hx hb gdL_law_552 (lv_topk (oi_add i 1) ?_)
  refine va_sld hx hb hX hbl hbA hS (vin (by omega) (by omega) hL) gdL_law_553 ?_
  refine lv_topk (scr_i scr i 1) ?_
  refine lv_aload_n hx hb gdL_law_554 rfl (lv_at hl 3 rfl) ?_
  refine lv_iload_n hx hb gdL_law_555 rfl (lv_at hl 0 rfl) ?_
  refine lv_iconst (v := Int32.ofInt 2) hx hb gdL_law_556 rfl ?_
  refine lv_iadd hx hb gdL_law_557 (lv_topk (oi_add i 2) ?_)
  refine va_sld hx hb hX hbl hbA hS (vin (by omega) (by omega) hL) gdL_law_558 ?_
  refine lv_topk (scr_i scr i 2) ?_
  refine lv_aload_n hx hb gdL_law_559 rfl (lv_at hl 3 rfl) ?_
  refine lv_iload_n hx hb gdL_law_560 rfl (lv_at hl 0 rfl) ?_
  refine lv_iconst (v := Int32.ofInt 3) hx hb gdL_law_561 rfl ?_
  refine lv_iadd hx hb gdL_law_562 (lv_topk (oi_add i 3) ?_)
  refine va_sld hx hb hX hbl hbA hS (vin (by omega) (by omega) hL) gdL_law_563 ?_
  refine lv_topk (scr_i scr i 3) ?_
  obtain ⟨v0, hv0, hq0⟩ := t_X11_cell oC (scr_ scr i 1) (scr_ scr i 2) (scr_ scr i 3) invC.1 (by omega) (by omega) (by omega)
  refine kCi (oC := oC) (oM := oM) X (c_X11_cell l g adC oC (scr_ scr i 1) (scr_ scr i 2) (scr_ scr i 3) v0 hv0) rfl okm_X11_cell okw_X11_cell w_617 rfl hK hP hD hS hA hZ hl.1 rfl (Nat.le_of_ble_eq_true rfl) ⟨(Nat.le_of_ble_eq_true rfl), (Nat.le_of_ble_eq_true rfl)⟩ gdL_law_564 hcs (fun H locs hP hD hS => ?_)
  replace hq0 : BoxC v0.2 ∧ (Fr [(8, 9999), (9, 9999)] oC v0.2) := hq0
  replace invC : INVC v0.2 (B + 740000) := invC.fr hB0 hq0.1 hq0.2 rfl rfl (fun _ => rfl) (fun _ => rfl) (fun _ => rfl) (fun _ => rfl) (fun _ => rfl) (fun _ => rfl)
  refine lv_pop hx hb gdL_law_567 rfl ?_
  refine lv_aload_n hx hb gdL_law_568 rfl (lv_at hl 1 rfl) ?_
  refine lv_aload_n hx hb gdL_law_569 rfl (lv_at hl 3 rfl) ?_
  refine lv_iload_n hx hb gdL_law_570 rfl (lv_at hl 0 rfl) ?_
  refine lv_iconst (v := Int32.ofInt 1) hx hb gdL_law_571 rfl ?_
  refine lv_iadd hx hb gdL_law_572 (lv_topk (oi_add i 1) ?_)
  refine va_sld hx hb hX hbl hbA hS (vin (by omega) (by omega) hL) gdL_law_573 ?_
  refine lv_topk (scr_i scr i 1) ?_
  refine lv_aload_n hx hb gdL_law_574 rfl (lv_at hl 3 rfl) ?_
  refine lv_iload_n hx hb gdL_law_575 rfl (lv_at hl 0 rfl) ?_
  refine lv_iconst (v := Int32.ofInt 2) hx hb gdL_law_576 rfl ?_
  refine lv_iadd hx hb gdL_law_577 (lv_topk (oi_add i 2) ?_)
  refine va_sld hx hb hX hbl hbA hS (vin (by omega) (by omega) hL) gdL_law_578 ?_
  refine lv_topk (scr_i scr i 2) ?_
  refine lv_aload_n hx hb gdL_law_579 rfl (lv_at hl 3 rfl) ?_
  refine lv_iload_n hx hb gdL_law_580 rfl (lv_at hl 0 rfl) ?_
  refine lv_iconst (v := Int32.ofInt 3) hx hb gdL_law_581 rfl ?_
  refine lv_iadd hx hb gdL_law_582 (lv_topk (oi_add i 3) ?_)
  refine va_sld hx hb hX hbl hbA hS (vin (by omega) (by omega) hL) gdL_law_583 ?_
  refine lv_topk (scr_i scr i 3) ?_
  obtain ⟨v1, hv1, hq1⟩ := t_X12_cell oM (scr_ scr i 1) (scr_ scr i 2) (scr_ scr i 3) invM.1 (by omega) (by omega) (by omega)
  refine kMi (oC := v0.2) (oM := oM) X (c_X12_cell l g adM oM (scr_ scr i 1) (scr_ scr i 2) (scr_ scr i 3) v1 hv1) rfl okm_X12_cell okw_X12_cell w_1784 rfl hK hP hD hS hA hZ hl.1 rfl (Nat.le_of_ble_eq_true rfl) ⟨(Nat.le_of_ble_eq_true rfl), (Nat.le_of_ble_eq_true rfl)⟩ gdL_law_584 hcs (fun H locs hP hD hS => ?_)
  replace hq1 : BoxM v1.2 ∧ (Fr [(11, 9999), (12, 9999)] oM v1.2) := hq1
  replace invM : INVM v1.2 := invM.fr hq1.1 hq1.2 rfl rfl (fun _ => rfl)
  refine lv_pop hx hb gdL_law_587 rfl ?_
  refine lv_goto (tgt := 1952) hx hb gdL_law_588 (by decide) ?_
  have hR9 : REL v0.2 v1.2 := ⟨hR.1.fr hq0.2 hq1.2 (fun _ => rfl) (fun _ => rfl) (fun _ => rfl) (fun _ => rfl), hR.2.1.fr hq0.2 hq1.2 (fun _ => rfl) (fun _ => rfl) (fun _ => rfl) (fun _ => rfl), day_fr hR.2.2.1 hq0.2 hq1.2 rfl rfl, hR.2.2.2.1.fr hq0.2 hq1.2 rfl rfl (fun _ => rfl) (fun _ => rfl) (fun _ => rfl) (fun _ => rfl) (fun _ => rfl) (fun _ => rfl), hR.2.2.2.2.fr hq0.2 hq1.2 rfl rfl (fun _ => rfl) (fun _ => rfl)⟩
  exact kend v0.2 v1.2 _ _ _ invC invM hR9 hP hD hS hl
set_option maxHeartbeats 4000000 in
set_option maxRecDepth 100000 in
theorem law_9 (l : Launch) (g : GG) {p : Program} {e : Env} {s : State} {m : MethodId} {below : List Frame} {meth : Method} {c : Code} {b L : Nat} {scr : Nat → Int32} {A : Nat → Prop} {Q : State → Prop} {cells slots : Nat} {H : Heap} {locs : List Loc} {ls : Array Slot} {adC adM : Nat → Nat} {oC oM : OO} {B i : Int} (X : En p s m #[Value.ref b] meth c cL_law 4 ret R_law meth.name) (hK : va_K g.1 classes (tyG g) s) (hA : ∀ q, s.heap.size ≤ q → A q) (hZ : stS g A s s.heap) (hX : va_X b L scr s s.heap) (hbl : b < s.heap.size) (hbA : ¬ A b) (hcs : cells + 0 ≤ room_1.cells ∧ slots + 0 ≤ room_1.slots) (hL : L ≤ 3072) (i0 : 0 ≤ i) (i1 : i + 6 ≤ (L : Int)) (hB0 : 0 ≤ B) (hB1 : B ≤ 379000000) (invC : INVC oC B) (invM : INVM oM) (hR : REL oC oM) (hP : va_P g.1 classes (wC g adC oC ++ wM g adM oM) H) (hD : va_D A (wC g adC oC ++ wM g adM oM)) (hS : va_S A s.heap H locs) (hl : lv_has ls 4 [(3, iv i), (2, .ref (adM 0)), (1, .ref (adC 0)), (0, .ref b)])
    (kend : ∀ (oC oM : OO) (H : Heap) (locs : List Loc) (ls : Array Slot), INVC oC (B + 740000) → INVM oM → REL oC oM → va_P g.1 classes (wC g adC oC ++ wM g adM oM) H → va_D A (wC g adC oC ++ wM g adM oM) → va_S A s.heap H locs → lv_has ls 4 [(3, iv i), (2, .ref (adM 0)), (1, .ref (adC 0)), (0, .ref b)] → W p l e room_1 s m #[Value.ref b] below meth c H locs cells slots Q (F0 m 1952 ls [])) : W p l e room_1 s m #[Value.ref b] below meth c H locs cells slots Q (F0 m 591 ls []) := by
  have hx := X.1
  have hb := X.2.1
  have sr1 := scr_R scr i 1
  have sr2 := scr_R scr i 2
  have sr3 := scr_R scr i 3
  have sr4 := scr_R scr i 4
  have sr5 := scr_R scr i 5
  have iC0 := invC
  have iM0 := invM
  refine lv_aload_n hx hb gdL_law_591 rfl (lv_at hl 2 rfl) ?_
  refine lv_aload_n hx hb gdL_law_592 rfl (lv_at hl 3 rfl) ?_
  refine lv_iload_n hx hb gdL_law_593 rfl (lv_at hl 0 rfl) ?_
  refine lv_iconst (v := Int32.ofInt 1) hx hb gdL_law_594 rfl ?_
  refine lv_iadd hx hb gdL_law_595 (lv_topk (oi_add i 1) ?_)
  refine va_sld hx hb hX hbl hbA hS (vin (by omega) (by omega) hL) gdL_law_596 ?_
  refine lv_topk (scr_i scr i 1) ?_
  refine lv_aload_n hx hb gdL_law_597 rfl (lv_at hl 3 rfl) ?_
  refine lv_iload_n hx hb gdL_law_598 rfl (lv_at hl 0 rfl) ?_
  refine lv_iconst (v := Int32.ofInt 2) hx hb gdL_law_599 rfl ?_
  refine lv_iadd hx hb gdL_law_600 (lv_topk (oi_add i 2) ?_)
  refine va_sld hx hb hX hbl hbA hS (vin (by omega) (by omega) hL) gdL_law_601 ?_
  refine lv_topk (scr_i scr i 2) ?_
  refine lv_aload_n hx hb gdL_law_602 rfl (lv_at hl 3 rfl) ?_
  refine lv_iload_n hx hb gdL_law_603 rfl (lv_at hl 0 rfl) ?_
  refine lv_iconst (v := Int32.ofInt 3) hx hb gdL_law_604 rfl ?_
  refine lv_iadd hx hb gdL_law_605 (lv_topk (oi_add i 3) ?_)
  refine va_sld hx hb hX hbl hbA hS (vin (by omega) (by omega) hL) gdL_law_606 ?_
  refine lv_topk (scr_i scr i 3) ?_
  refine lv_aload_n hx hb gdL_law_607 rfl (lv_at hl 3 rfl) ?_
  refine lv_iload_n hx hb gdL_law_608 rfl (lv_at hl 0 rfl) ?_
  refine lv_iconst (v := Int32.ofInt 4) hx hb gdL_law_609 rfl ?_
  refine lv_iadd hx hb gdL_law_610 (lv_topk (oi_add i 4) ?_)
  refine va_sld hx hb hX hbl hbA hS (vin (by omega) (by omega) hL) gdL_law_611 ?_
  refine lv_topk (scr_i scr i 4) ?_
  obtain ⟨v0, hv0, hq0⟩ := t_X11_building oC (scr_ scr i 1) (scr_ scr i 2) (scr_ scr i 3) (scr_ scr i 4) invC.1 (by omega) (by omega) (by omega) (by omega)
  refine kCi (oC := oC) (oM := oM) X (c_X11_building l g adC oC (scr_ scr i 1) (scr_ scr i 2) (scr_ scr i 3) (scr_ scr i 4) v0 hv0) rfl okm_X11_building okw_X11_building w_632 rfl hK hP hD hS hA hZ hl.1 rfl (Nat.le_of_ble_eq_true rfl) ⟨(Nat.le_of_ble_eq_true rfl), (Nat.le_of_ble_eq_true rfl)⟩ gdL_law_612 hcs (fun H locs hP hD hS => ?_)
  replace hq0 : BoxC v0.2 ∧ (Fr [(10, 12), (10, 13), (11, 9999), (12, 9999), (13, 9999), (15, 9999), (16, 9999), (18, 9999), (19, 9999), (20, 9999), (21, 9999)] oC v0.2) ∧ (inR v0.1) ∧ (HTC oC → HTC v0.2) ∧ (OC oC → OC v0.2) := hq0
  replace invC : INVC v0.2 (B + 740000) := ⟨hq0.1, (hq0.2.2.2.1 invC.2.1), (hq0.2.2.2.2 invC.2.2.1), ((LB.cg (fun j => hq0.2.1.1 64 j rfl) (fun j => hq0.2.1.1 61 j rfl) invC.2.2.2).up (by omega))⟩
  refine lv_pop hx hb gdL_law_615 rfl ?_
  refine lv_aload_n hx hb gdL_law_616 rfl (lv_at hl 1 rfl) ?_
  refine lv_aload_n hx hb gdL_law_617 rfl (lv_at hl 3 rfl) ?_
  refine lv_iload_n hx hb gdL_law_618 rfl (lv_at hl 0 rfl) ?_
  refine lv_iconst (v := Int32.ofInt 1) hx hb gdL_law_619 rfl ?_
  refine lv_iadd hx hb gdL_law_620 (lv_topk (oi_add i 1) ?_)
  refine va_sld hx hb hX hbl hbA hS (vin (by omega) (by omega) hL) gdL_law_621 ?_
  refine lv_topk (scr_i scr i 1) ?_
  refine lv_aload_n hx hb gdL_law_622 rfl (lv_at hl 3 rfl) ?_
  refine lv_iload_n hx hb gdL_law_623 rfl (lv_at hl 0 rfl) ?_
  refine lv_iconst (v := Int32.ofInt 2) hx hb gdL_law_624 rfl ?_
  refine lv_iadd hx hb gdL_law_625 (lv_topk (oi_add i 2) ?_)
  refine va_sld hx hb hX hbl hbA hS (vin (by omega) (by omega) hL) gdL_law_626 ?_
  refine lv_topk (scr_i scr i 2) ?_
  refine lv_aload_n hx hb gdL_law_627 rfl (lv_at hl 3 rfl) ?_
  refine lv_iload_n hx hb gdL_law_628 rfl (lv_at hl 0 rfl) ?_
  refine lv_iconst (v := Int32.ofInt 3) hx hb gdL_law_629 rfl ?_
  refine lv_iadd hx hb gdL_law_630 (lv_topk (oi_add i 3) ?_)
  refine va_sld hx hb hX hbl hbA hS (vin (by omega) (by omega) hL) gdL_law_631 ?_
  refine lv_topk (scr_i scr i 3) ?_
  refine lv_aload_n hx hb gdL_law_632 rfl (lv_at hl 3 rfl) ?_
  refine lv_iload_n hx hb gdL_law_633 rfl (lv_at hl 0 rfl) ?_
  refine lv_iconst (v := Int32.ofInt 4) hx hb gdL_law_634 rfl ?_
  refine lv_iadd hx hb gdL_law_635 (lv_topk (oi_add i 4) ?_)
  refine va_sld hx hb hX hbl hbA hS (vin (by omega) (by omega) hL) gdL_law_636 ?_
  refine lv_topk (scr_i scr i 4) ?_
  obtain ⟨v1, hv1, hq1⟩ := t_X12_building oM (scr_ scr i 1) (scr_ scr i 2) (scr_ scr i 3) (scr_ scr i 4) invM.1 (by omega) (by omega) (by omega) (by omega)
  refine kMi (oC := v0.2) (oM := oM) X (c_X12_building l g adM oM (scr_ scr i 1) (scr_ scr i 2) (scr_ scr i 3) (scr_ scr i 4) v1 hv1) rfl okm_X12_building okw_X12_building w_1795 rfl hK hP hD hS hA hZ hl.1 rfl (Nat.le_of_ble_eq_true rfl) ⟨(Nat.le_of_ble_eq_true rfl), (Nat.le_of_ble_eq_true rfl)⟩ gdL_law_637 hcs (fun H locs hP hD hS => ?_)
  replace hq1 : BoxM v1.2 ∧ (Fr [(0, 17), (0, 23), (13, 9999), (14, 9999), (15, 9999), (17, 9999), (18, 9999), (19, 9999), (20, 9999)] oM v1.2) ∧ (inR v1.1) ∧ (HT oM → HT v1.2) := hq1
  replace invM : INVM v1.2 := ⟨hq1.1, hq1.2.2.2 invM.2⟩
  refine lv_pop hx hb gdL_law_640 rfl ?_
  refine lv_goto (tgt := 1952) hx hb gdL_law_641 (by decide) ?_
  have hR9 : REL v0.2 v1.2 := ⟨hR.1.fr hq0.2.1 hq1.2.1 (fun _ => rfl) (fun _ => rfl) (fun _ => rfl) (fun _ => rfl), hR.2.1.fr hq0.2.1 hq1.2.1 (fun _ => rfl) (fun _ => rfl) (fun _ => rfl) (fun _ => rfl), day_fr hR.2.2.1 hq0.2.1 hq1.2.1 rfl rfl, hR.2.2.2.1.fr hq0.2.1 hq1.2.1 rfl rfl (fun _ => rfl) (fun _ => rfl) (fun _ => rfl) (fun _ => rfl) (fun _ => rfl) (fun _ => rfl), hR.2.2.2.2.fr hq0.2.1 hq1.2.1 rfl rfl (fun _ => rfl) (fun _ => rfl)⟩
  exact kend v0.2 v1.2 _ _ _ invC invM hR9 hP hD hS hl
set_option maxHeartbeats 4000000 in
set_option maxRecDepth 100000 in
theorem law_10 (l : Launch) (g : GG) {p : Program} {e : Env} {s : State} {m : MethodId} {below : List Frame} {meth : Method} {c : Code} {b L : Nat} {scr : Nat → Int32} {A : Nat → Prop} {Q : State → Prop} {cells slots : Nat} {H : Heap} {locs : List Loc} {ls : Array Slot} {adC adM : Nat → Nat} {oC oM : OO} {B i : Int} (X : En p s m #[Value.ref b] meth c cL_law 4 ret R_law meth.name) (hK : va_K g.1 classes (tyG g) s) (hA : ∀ q, s.heap.size ≤ q → A q) (hZ : stS g A s s.heap) (hX : va_X b L scr s s.heap) (hbl : b < s.heap.size) (hbA : ¬ A b) (hcs : cells + 0 ≤ room_1.cells ∧ slots + 0 ≤ room_1.slots) (hL : L ≤ 3072) (i0 : 0 ≤ i) (i1 : i + 6 ≤ (L : Int)) (hB0 : 0 ≤ B) (hB1 : B ≤ 379000000) (invC : INVC oC B) (invM : INVM oM) (hR : REL oC oM) (hP : va_P g.1 classes (wC g adC oC ++ wM g adM oM) H) (hD : va_D A (wC g adC oC ++ wM g adM oM)) (hS : va_S A s.heap H locs) (hl : lv_has ls 4 [(3, iv i), (2, .ref (adM 0)), (1, .ref (adC 0)), (0, .ref b)])
    (kend : ∀ (oC oM : OO) (H : Heap) (locs : List Loc) (ls : Array Slot), INVC oC (B + 740000) → INVM oM → REL oC oM → va_P g.1 classes (wC g adC oC ++ wM g adM oM) H → va_D A (wC g adC oC ++ wM g adM oM) → va_S A s.heap H locs → lv_has ls 4 [(3, iv i), (2, .ref (adM 0)), (1, .ref (adC 0)), (0, .ref b)] → W p l e room_1 s m #[Value.ref b] below meth c H locs cells slots Q (F0 m 1952 ls [])) : W p l e room_1 s m #[Value.ref b] below meth c H locs cells slots Q (F0 m 644 ls []) := by
  have hx := X.1
  have hb := X.2.1
  have sr1 := scr_R scr i 1
  have sr2 := scr_R scr i 2
  have sr3 := scr_R scr i 3
  have sr4 := scr_R scr i 4
  have sr5 := scr_R scr i 5
  have iC0 := invC
  have iM0 := invM
  refine lv_aload_n hx hb gdL_law_644 rfl (lv_at hl 2 rfl) ?_
  refine lv_aload_n hx hb gdL_law_645 rfl (lv_at hl 3 rfl) ?_
  refine lv_iload_n hx hb gdL_law_646 rfl (lv_at hl 0 rfl) ?_
  refine lv_iconst (v := Int32.ofInt 1) hx hb gdL_law_647 rfl ?_
  refine lv_iadd hx hb gdL_law_648 (lv_topk (oi_add i 1) ?_)
  refine va_sld hx hb hX hbl hbA hS (vin (by omega) (by omega) hL) gdL_law_649 ?_
  refine lv_topk (scr_i scr i 1) ?_
  refine lv_aload_n hx hb gdL_law_650 rfl (lv_at hl 3 rfl) ?_
  refine lv_iload_n hx hb gdL_law_651 rfl (lv_at hl 0 rfl) ?_
  refine lv_iconst (v := Int32.ofInt 2) hx hb gdL_law_652 rfl ?_
  refine lv_iadd hx hb gdL_law_653 (lv_topk (oi_add i 2) ?_)
  refine va_sld hx hb hX hbl hbA hS (vin (by omega) (by omega) hL) gdL_law_654 ?_
  refine lv_topk (scr_i scr i 2) ?_
  obtain ⟨v0, hv0, hq0⟩ := t_X11_worth oC (scr_ scr i 1) (scr_ scr i 2) invC.1 (by omega) (by omega)
  refine kCi (oC := oC) (oM := oM) X (c_X11_worth l g adC oC (scr_ scr i 1) (scr_ scr i 2) v0 hv0) rfl okm_X11_worth okw_X11_worth w_663 rfl hK hP hD hS hA hZ hl.1 rfl (Nat.le_of_ble_eq_true rfl) ⟨(Nat.le_of_ble_eq_true rfl), (Nat.le_of_ble_eq_true rfl)⟩ gdL_law_655 hcs (fun H locs hP hD hS => ?_)
  replace hq0 : BoxC v0.2 ∧ (Fr [(10, 13), (16, 9999), (19, 9999), (20, 9999), (21, 9999)] oC v0.2) ∧ (inR v0.1) ∧ (HTC oC → HTC v0.2) := hq0
  replace invC : INVC v0.2 (B + 740000) := ⟨hq0.1, (hq0.2.2.2 invC.2.1), (invC.2.2.1.fr hq0.2.1 rfl (fun _ => rfl) (fun _ => rfl) (fun _ => rfl)), ((LB.cg (fun j => hq0.2.1.1 64 j rfl) (fun j => hq0.2.1.1 61 j rfl) invC.2.2.2).up (by omega))⟩
  refine lv_pop hx hb gdL_law_658 rfl ?_
  refine lv_aload_n hx hb gdL_law_659 rfl (lv_at hl 1 rfl) ?_
  refine lv_aload_n hx hb gdL_law_660 rfl (lv_at hl 3 rfl) ?_
  refine lv_iload_n hx hb gdL_law_661 rfl (lv_at hl 0 rfl) ?_
  refine lv_iconst (v := Int32.ofInt 1) hx hb gdL_law_662 rfl ?_
  refine lv_iadd hx hb gdL_law_663 (lv_topk (oi_add i 1) ?_)
  refine va_sld hx hb hX hbl hbA hS (vin (by omega) (by omega) hL) gdL_law_664 ?_
  refine lv_topk (scr_i scr i 1) ?_
  refine lv_aload_n hx hb gdL_law_665 rfl (lv_at hl 3 rfl) ?_
  refine lv_iload_n hx hb gdL_law_666 rfl (lv_at hl 0 rfl) ?_
  refine lv_iconst (v := Int32.ofInt 2) hx hb gdL_law_667 rfl ?_
  refine lv_iadd hx hb gdL_law_668 (lv_topk (oi_add i 2) ?_)
  refine va_sld hx hb hX hbl hbA hS (vin (by omega) (by omega) hL) gdL_law_669 ?_
  refine lv_topk (scr_i scr i 2) ?_
  obtain ⟨v1, hv1, hq1⟩ := t_X12_worth oM (scr_ scr i 1) (scr_ scr i 2) invM.1 (by omega) (by omega)
  refine kMi (oC := v0.2) (oM := oM) X (c_X12_worth l g adM oM (scr_ scr i 1) (scr_ scr i 2) v1 hv1) rfl okm_X12_worth okw_X12_worth w_1807 rfl hK hP hD hS hA hZ hl.1 rfl (Nat.le_of_ble_eq_true rfl) ⟨(Nat.le_of_ble_eq_true rfl), (Nat.le_of_ble_eq_true rfl)⟩ gdL_law_670 hcs (fun H locs hP hD hS => ?_)
  replace hq1 : BoxM v1.2 ∧ (Fr [(0, 23), (18, 9999), (19, 9999), (20, 9999)] oM v1.2) ∧ (inR v1.1) ∧ (HT oM → HT v1.2) := hq1
  replace invM : INVM v1.2 := ⟨hq1.1, hq1.2.2.2 invM.2⟩
  refine lv_pop hx hb gdL_law_673 rfl ?_
  refine lv_goto (tgt := 1952) hx hb gdL_law_674 (by decide) ?_
  have hR9 : REL v0.2 v1.2 := ⟨hR.1.fr hq0.2.1 hq1.2.1 (fun _ => rfl) (fun _ => rfl) (fun _ => rfl) (fun _ => rfl), hR.2.1.fr hq0.2.1 hq1.2.1 (fun _ => rfl) (fun _ => rfl) (fun _ => rfl) (fun _ => rfl), day_fr hR.2.2.1 hq0.2.1 hq1.2.1 rfl rfl, hR.2.2.2.1.fr hq0.2.1 hq1.2.1 rfl rfl (fun _ => rfl) (fun _ => rfl) (fun _ => rfl) (fun _ => rfl) (fun _ => rfl) (fun _ => rfl), hR.2.2.2.2.fr hq0.2.1 hq1.2.1 rfl rfl (fun _ => rfl) (fun _ => rfl)⟩
  exact kend v0.2 v1.2 _ _ _ invC invM hR9 hP hD hS hl
set_option maxHeartbeats 4000000 in
set_option maxRecDepth 100000 in
theorem law_11 (l : Launch) (g : GG) {p : Program} {e : Env} {s : State} {m : MethodId} {below : List Frame} {meth : Method} {c : Code} {b L : Nat} {scr : Nat → Int32} {A : Nat → Prop} {Q : State → Prop} {cells slots : Nat} {H : Heap} {locs : List Loc} {ls : Array Slot} {adC adM : Nat → Nat} {oC oM : OO} {B i : Int} (X : En p s m #[Value.ref b] meth c cL_law 4 ret R_law meth.name) (hK : va_K g.1 classes (tyG g) s) (hA : ∀ q, s.heap.size ≤ q → A q) (hZ : stS g A s s.heap) (hX : va_X b L scr s s.heap) (hbl : b < s.heap.size) (hbA : ¬ A b) (hcs : cells + 0 ≤ room_1.cells ∧ slots + 0 ≤ room_1.slots) (hL : L ≤ 3072) (i0 : 0 ≤ i) (i1 : i + 6 ≤ (L : Int)) (hB0 : 0 ≤ B) (hB1 : B ≤ 379000000) (invC : INVC oC B) (invM : INVM oM) (hR : REL oC oM) (hP : va_P g.1 classes (wC g adC oC ++ wM g adM oM) H) (hD : va_D A (wC g adC oC ++ wM g adM oM)) (hS : va_S A s.heap H locs) (hl : lv_has ls 4 [(3, iv i), (2, .ref (adM 0)), (1, .ref (adC 0)), (0, .ref b)])
    (kend : ∀ (oC oM : OO) (H : Heap) (locs : List Loc) (ls : Array Slot), INVC oC (B + 740000) → INVM oM → REL oC oM → va_P g.1 classes (wC g adC oC ++ wM g adM oM) H → va_D A (wC g adC oC ++ wM g adM oM) → va_S A s.heap H locs → lv_has ls 4 [(3, iv i), (2, .ref (adM 0)), (1, .ref (adC 0)), (0, .ref b)] → W p l e room_1 s m #[Value.ref b] below meth c H locs cells slots Q (F0 m 1952 ls [])) : W p l e room_1 s m #[Value.ref b] below meth c H locs cells slots Q (F0 m 677 ls []) := by
  have hx := X.1
  have hb := X.2.1
  have sr1 := scr_R scr i 1
  have sr2 := scr_R scr i 2
  have sr3 := scr_R scr i 3
  have sr4 := scr_R scr i 4
  have sr5 := scr_R scr i 5
  have iC0 := invC
  have iM0 := invM
  refine lv_aload_n hx hb gdL_law_677 rfl (lv_at hl 2 rfl) ?_
  refine lv_aload_n hx hb gdL_law_678 rfl (lv_at hl 3 rfl) ?_
  refine lv_iload_n hx hb gdL_law_679 rfl (lv_at hl 0 rfl) ?_
  refine lv_iconst (v := Int32.ofInt 1) hx hb gdL_law_680 rfl ?_
  refine lv_iadd hx hb gdL_law_681 (lv_topk (oi_add i 1) ?_)
  refine va_sld hx hb hX hbl hbA hS (vin (by omega) (by omega) hL) gdL_law_682 ?_
  refine lv_topk (scr_i scr i 1) ?_
  refine lv_aload_n hx hb gdL_law_683 rfl (lv_at hl 3 rfl) ?_
  refine lv_iload_n hx hb gdL_law_684 rfl (lv_at hl 0 rfl) ?_
  refine lv_iconst (v := Int32.ofInt 2) hx hb gdL_law_685 rfl ?_
  refine lv_iadd hx hb gdL_law_686 (lv_topk (oi_add i 2) ?_)
  refine va_sld hx hb hX hbl hbA hS (vin (by omega) (by omega) hL) gdL_law_687 ?_
  refine lv_topk (scr_i scr i 2) ?_
  obtain ⟨v0, hv0, hq0⟩ := t_X11_value oC (scr_ scr i 1) (scr_ scr i 2) invC.1 (by omega) (by omega)
  refine kCi (oC := oC) (oM := oM) X (c_X11_value l g adC oC (scr_ scr i 1) (scr_ scr i 2) v0 hv0) rfl okm_X11_value okw_X11_value w_680 rfl hK hP hD hS hA hZ hl.1 rfl (Nat.le_of_ble_eq_true rfl) ⟨(Nat.le_of_ble_eq_true rfl), (Nat.le_of_ble_eq_true rfl)⟩ gdL_law_688 hcs (fun H locs hP hD hS => ?_)
  replace invC : INVC oC (B + 740000) := invC.up
  refine lv_pop hx hb gdL_law_691 rfl ?_
  refine lv_aload_n hx hb gdL_law_692 rfl (lv_at hl 1 rfl) ?_
  refine lv_aload_n hx hb gdL_law_693 rfl (lv_at hl 3 rfl) ?_
  refine lv_iload_n hx hb gdL_law_694 rfl (lv_at hl 0 rfl) ?_
  refine lv_iconst (v := Int32.ofInt 1) hx hb gdL_law_695 rfl ?_
  refine lv_iadd hx hb gdL_law_696 (lv_topk (oi_add i 1) ?_)
  refine va_sld hx hb hX hbl hbA hS (vin (by omega) (by omega) hL) gdL_law_697 ?_
  refine lv_topk (scr_i scr i 1) ?_
  refine lv_aload_n hx hb gdL_law_698 rfl (lv_at hl 3 rfl) ?_
  refine lv_iload_n hx hb gdL_law_699 rfl (lv_at hl 0 rfl) ?_
  refine lv_iconst (v := Int32.ofInt 2) hx hb gdL_law_700 rfl ?_
  refine lv_iadd hx hb gdL_law_701 (lv_topk (oi_add i 2) ?_)
  refine va_sld hx hb hX hbl hbA hS (vin (by omega) (by omega) hL) gdL_law_702 ?_
  refine lv_topk (scr_i scr i 2) ?_
  obtain ⟨v1, hv1, hq1⟩ := t_X12_value oM (scr_ scr i 1) (scr_ scr i 2) invM.1 (by omega) (by omega)
  refine kMi (oC := oC) (oM := oM) X (c_X12_value l g adM oM (scr_ scr i 1) (scr_ scr i 2) v1 hv1) rfl okm_X12_value okw_X12_value w_1819 rfl hK hP hD hS hA hZ hl.1 rfl (Nat.le_of_ble_eq_true rfl) ⟨(Nat.le_of_ble_eq_true rfl), (Nat.le_of_ble_eq_true rfl)⟩ gdL_law_703 hcs (fun H locs hP hD hS => ?_)
  refine lv_pop hx hb gdL_law_706 rfl ?_
  refine lv_goto (tgt := 1952) hx hb gdL_law_707 (by decide) ?_
  have hR9 : REL oC oM := ⟨hR.1.fr (Fr.rf (L := [])) (Fr.rf (L := [])) (fun _ => rfl) (fun _ => rfl) (fun _ => rfl) (fun _ => rfl), hR.2.1.fr (Fr.rf (L := [])) (Fr.rf (L := [])) (fun _ => rfl) (fun _ => rfl) (fun _ => rfl) (fun _ => rfl), day_fr hR.2.2.1 (Fr.rf (L := [])) (Fr.rf (L := [])) rfl rfl, hR.2.2.2.1.fr (Fr.rf (L := [])) (Fr.rf (L := [])) rfl rfl (fun _ => rfl) (fun _ => rfl) (fun _ => rfl) (fun _ => rfl) (fun _ => rfl) (fun _ => rfl), hR.2.2.2.2.fr (Fr.rf (L := [])) (Fr.rf (L := [])) rfl rfl (fun _ => rfl) (fun _ => rfl)⟩
  exact kend oC oM _ _ _ invC invM hR9 hP hD hS hl
set_option maxHeartbeats 4000000 in
set_option maxRecDepth 100000 in
theorem law_12 (l : Launch) (g : GG) {p : Program} {e : Env} {s : State} {m : MethodId} {below : List Frame} {meth : Method} {c : Code} {b L : Nat} {scr : Nat → Int32} {A : Nat → Prop} {Q : State → Prop} {cells slots : Nat} {H : Heap} {locs : List Loc} {ls : Array Slot} {adC adM : Nat → Nat} {oC oM : OO} {B i : Int} (X : En p s m #[Value.ref b] meth c cL_law 4 ret R_law meth.name) (hK : va_K g.1 classes (tyG g) s) (hA : ∀ q, s.heap.size ≤ q → A q) (hZ : stS g A s s.heap) (hX : va_X b L scr s s.heap) (hbl : b < s.heap.size) (hbA : ¬ A b) (hcs : cells + 0 ≤ room_1.cells ∧ slots + 0 ≤ room_1.slots) (hL : L ≤ 3072) (i0 : 0 ≤ i) (i1 : i + 6 ≤ (L : Int)) (hB0 : 0 ≤ B) (hB1 : B ≤ 379000000) (invC : INVC oC B) (invM : INVM oM) (hR : REL oC oM) (hP : va_P g.1 classes (wC g adC oC ++ wM g adM oM) H) (hD : va_D A (wC g adC oC ++ wM g adM oM)) (hS : va_S A s.heap H locs) (hl : lv_has ls 4 [(3, iv i), (2, .ref (adM 0)), (1, .ref (adC 0)), (0, .ref b)])
    (kend : ∀ (oC oM : OO) (H : Heap) (locs : List Loc) (ls : Array Slot), INVC oC (B + 740000) → INVM oM → REL oC oM → va_P g.1 classes (wC g adC oC ++ wM g adM oM) H → va_D A (wC g adC oC ++ wM g adM oM) → va_S A s.heap H locs → lv_has ls 4 [(3, iv i), (2, .ref (adM 0)), (1, .ref (adC 0)), (0, .ref b)] → W p l e room_1 s m #[Value.ref b] below meth c H locs cells slots Q (F0 m 1952 ls [])) : W p l e room_1 s m #[Value.ref b] below meth c H locs cells slots Q (F0 m 710 ls []) := by
  have hx := X.1
  have hb := X.2.1
  have sr1 := scr_R scr i 1
  have sr2 := scr_R scr i 2
  have sr3 := scr_R scr i 3
  have sr4 := scr_R scr i 4
  have sr5 := scr_R scr i 5
  have iC0 := invC
  have iM0 := invM
  refine lv_aload_n hx hb gdL_law_710 rfl (lv_at hl 2 rfl) ?_
  refine lv_aload_n hx hb gdL_law_711 rfl (lv_at hl 3 rfl) ?_
  refine lv_iload_n hx hb gdL_law_712 rfl (lv_at hl 0 rfl) ?_
  refine lv_iconst (v := Int32.ofInt 1) hx hb gdL_law_713 rfl ?_
  refine lv_iadd hx hb gdL_law_714 (lv_topk (oi_add i 1) ?_)
  refine va_sld hx hb hX hbl hbA hS (vin (by omega) (by omega) hL) gdL_law_715 ?_
  refine lv_topk (scr_i scr i 1) ?_
  refine lv_aload_n hx hb gdL_law_716 rfl (lv_at hl 3 rfl) ?_
  refine lv_iload_n hx hb gdL_law_717 rfl (lv_at hl 0 rfl) ?_
  refine lv_iconst (v := Int32.ofInt 2) hx hb gdL_law_718 rfl ?_
  refine lv_iadd hx hb gdL_law_719 (lv_topk (oi_add i 2) ?_)
  refine va_sld hx hb hX hbl hbA hS (vin (by omega) (by omega) hL) gdL_law_720 ?_
  refine lv_topk (scr_i scr i 2) ?_
  obtain ⟨v0, hv0, hq0⟩ := t_X11_house oC (scr_ scr i 1) (scr_ scr i 2) invC.1 (by omega) (by omega)
  refine kCi (oC := oC) (oM := oM) X (c_X11_house l g adC oC (scr_ scr i 1) (scr_ scr i 2) v0 hv0) rfl okm_X11_house okw_X11_house w_691 rfl hK hP hD hS hA hZ hl.1 rfl (Nat.le_of_ble_eq_true rfl) ⟨(Nat.le_of_ble_eq_true rfl), (Nat.le_of_ble_eq_true rfl)⟩ gdL_law_721 hcs (fun H locs hP hD hS => ?_)
  replace hq0 : BoxC v0.2 ∧ (Fr [(0, 14)] oC v0.2) := hq0
  replace invC : INVC v0.2 (B + 740000) := invC.fr hB0 hq0.1 hq0.2 rfl rfl (fun _ => rfl) (fun _ => rfl) (fun _ => rfl) (fun _ => rfl) (fun _ => rfl) (fun _ => rfl)
  refine lv_pop hx hb gdL_law_724 rfl ?_
  refine lv_aload_n hx hb gdL_law_725 rfl (lv_at hl 1 rfl) ?_
  refine lv_aload_n hx hb gdL_law_726 rfl (lv_at hl 3 rfl) ?_
  refine lv_iload_n hx hb gdL_law_727 rfl (lv_at hl 0 rfl) ?_
  refine lv_iconst (v := Int32.ofInt 1) hx hb gdL_law_728 rfl ?_
  refine lv_iadd hx hb gdL_law_729 (lv_topk (oi_add i 1) ?_)
  refine va_sld hx hb hX hbl hbA hS (vin (by omega) (by omega) hL) gdL_law_730 ?_
  refine lv_topk (scr_i scr i 1) ?_
  refine lv_aload_n hx hb gdL_law_731 rfl (lv_at hl 3 rfl) ?_
  refine lv_iload_n hx hb gdL_law_732 rfl (lv_at hl 0 rfl) ?_
  refine lv_iconst (v := Int32.ofInt 2) hx hb gdL_law_733 rfl ?_
  refine lv_iadd hx hb gdL_law_734 (lv_topk (oi_add i 2) ?_)
  refine va_sld hx hb hX hbl hbA hS (vin (by omega) (by omega) hL) gdL_law_735 ?_
  refine lv_topk (scr_i scr i 2) ?_
  obtain ⟨v1, hv1, hq1⟩ := t_X12_house oM (scr_ scr i 1) (scr_ scr i 2) invM.1 (by omega) (by omega)
  refine kMi (oC := v0.2) (oM := oM) X (c_X12_house l g adM oM (scr_ scr i 1) (scr_ scr i 2) v1 hv1) rfl okm_X12_house okw_X12_house w_1823 rfl hK hP hD hS hA hZ hl.1 rfl (Nat.le_of_ble_eq_true rfl) ⟨(Nat.le_of_ble_eq_true rfl), (Nat.le_of_ble_eq_true rfl)⟩ gdL_law_736 hcs (fun H locs hP hD hS => ?_)
  replace hq1 : BoxM v1.2 ∧ (Fr [(0, 2)] oM v1.2) := hq1
  replace invM : INVM v1.2 := invM.fr hq1.1 hq1.2 rfl rfl (fun _ => rfl)
  refine lv_pop hx hb gdL_law_739 rfl ?_
  refine lv_goto (tgt := 1952) hx hb gdL_law_740 (by decide) ?_
  have hR9 : REL v0.2 v1.2 := ⟨hR.1.fr hq0.2 hq1.2 (fun _ => rfl) (fun _ => rfl) (fun _ => rfl) (fun _ => rfl), hR.2.1.fr hq0.2 hq1.2 (fun _ => rfl) (fun _ => rfl) (fun _ => rfl) (fun _ => rfl), day_fr hR.2.2.1 hq0.2 hq1.2 rfl rfl, hR.2.2.2.1.fr hq0.2 hq1.2 rfl rfl (fun _ => rfl) (fun _ => rfl) (fun _ => rfl) (fun _ => rfl) (fun _ => rfl) (fun _ => rfl), hR.2.2.2.2.fr hq0.2 hq1.2 rfl rfl (fun _ => rfl) (fun _ => rfl)⟩
  exact kend v0.2 v1.2 _ _ _ invC invM hR9 hP hD hS hl
set_option maxHeartbeats 4000000 in
set_option maxRecDepth 100000 in
theorem law_13 (l : Launch) (g : GG) {p : Program} {e : Env} {s : State} {m : MethodId} {below : List Frame} {meth : Method} {c : Code} {b L : Nat} {scr : Nat → Int32} {A : Nat → Prop} {Q : State → Prop} {cells slots : Nat} {H : Heap} {locs : List Loc} {ls : Array Slot} {adC adM : Nat → Nat} {oC oM : OO} {B i : Int} (X : En p s m #[Value.ref b] meth c cL_law 4 ret R_law meth.name) (hK : va_K g.1 classes (tyG g) s) (hA : ∀ q, s.heap.size ≤ q → A q) (hZ : stS g A s s.heap) (hX : va_X b L scr s s.heap) (hbl : b < s.heap.size) (hbA : ¬ A b) (hcs : cells + 0 ≤ room_1.cells ∧ slots + 0 ≤ room_1.slots) (hL : L ≤ 3072) (i0 : 0 ≤ i) (i1 : i + 6 ≤ (L : Int)) (hB0 : 0 ≤ B) (hB1 : B ≤ 379000000) (invC : INVC oC B) (invM : INVM oM) (hR : REL oC oM) (hP : va_P g.1 classes (wC g adC oC ++ wM g adM oM) H) (hD : va_D A (wC g adC oC ++ wM g adM oM)) (hS : va_S A s.heap H locs) (hl : lv_has ls 4 [(3, iv i), (2, .ref (adM 0)), (1, .ref (adC 0)), (0, .ref b)])
    (kend : ∀ (oC oM : OO) (H : Heap) (locs : List Loc) (ls : Array Slot), INVC oC (B + 740000) → INVM oM → REL oC oM → va_P g.1 classes (wC g adC oC ++ wM g adM oM) H → va_D A (wC g adC oC ++ wM g adM oM) → va_S A s.heap H locs → lv_has ls 4 [(3, iv i), (2, .ref (adM 0)), (1, .ref (adC 0)), (0, .ref b)] → W p l e room_1 s m #[Value.ref b] below meth c H locs cells slots Q (F0 m 1952 ls [])) : W p l e room_1 s m #[Value.ref b] below meth c H locs cells slots Q (F0 m 743 ls []) := by
  have hx := X.1
  have hb := X.2.1
  have sr1 := scr_R scr i 1
  have sr2 := scr_R scr i 2
  have sr3 := scr_R scr i 3
  have sr4 := scr_R scr i 4
  have sr5 := scr_R scr i 5
  have iC0 := invC
  have iM0 := invM
  refine lv_aload_n hx hb gdL_law_743 rfl (lv_at hl 2 rfl) ?_
  refine lv_aload_n hx hb gdL_law_744 rfl (lv_at hl 3 rfl) ?_
  refine lv_iload_n hx hb gdL_law_745 rfl (lv_at hl 0 rfl) ?_
  refine lv_iconst (v := Int32.ofInt 1) hx hb gdL_law_746 rfl ?_
  refine lv_iadd hx hb gdL_law_747 (lv_topk (oi_add i 1) ?_)
  refine va_sld hx hb hX hbl hbA hS (vin (by omega) (by omega) hL) gdL_law_748 ?_
  refine lv_topk (scr_i scr i 1) ?_
  refine lv_aload_n hx hb gdL_law_749 rfl (lv_at hl 3 rfl) ?_
  refine lv_iload_n hx hb gdL_law_750 rfl (lv_at hl 0 rfl) ?_
  refine lv_iconst (v := Int32.ofInt 2) hx hb gdL_law_751 rfl ?_
  refine lv_iadd hx hb gdL_law_752 (lv_topk (oi_add i 2) ?_)
  refine va_sld hx hb hX hbl hbA hS (vin (by omega) (by omega) hL) gdL_law_753 ?_
  refine lv_topk (scr_i scr i 2) ?_
  refine lv_aload_n hx hb gdL_law_754 rfl (lv_at hl 3 rfl) ?_
  refine lv_iload_n hx hb gdL_law_755 rfl (lv_at hl 0 rfl) ?_
  refine lv_iconst (v := Int32.ofInt 3) hx hb gdL_law_756 rfl ?_
  refine lv_iadd hx hb gdL_law_757 (lv_topk (oi_add i 3) ?_)
  refine va_sld hx hb hX hbl hbA hS (vin (by omega) (by omega) hL) gdL_law_758 ?_
  refine lv_topk (scr_i scr i 3) ?_
  refine lv_if_eq (tgt := 766) hx hb gdL_law_759 (by decide) (fun hz => ?_) (fun hz => ?_)
  ·
    refine lv_iconst (v := Int32.ofInt 0) hx hb gdL_law_766 rfl ?_
    refine lv_aload_n hx hb gdL_law_767 rfl (lv_at hl 3 rfl) ?_
    refine lv_iload_n hx hb gdL_law_768 rfl (lv_at hl 0 rfl) ?_
    refine lv_iconst (v := Int32.ofInt 4) hx hb gdL_law_769 rfl ?_
    refine lv_iadd hx hb gdL_law_770 (lv_topk (oi_add i 4) ?_)
    refine va_sld hx hb hX hbl hbA hS (vin (by omega) (by omega) hL) gdL_law_771 ?_
    refine lv_topk (scr_i scr i 4) ?_
    obtain ⟨v0, hv0, hq0⟩ := t_X11_person oC (scr_ scr i 1) (scr_ scr i 2) 0 (scr_ scr i 4) invC.1 (by omega) (by omega) (by omega) (by omega)
    refine kCi (oC := oC) (oM := oM) X (c_X11_person l g adC oC (scr_ scr i 1) (scr_ scr i 2) 0 (scr_ scr i 4) v0 hv0) rfl okm_X11_person okw_X11_person w_699 rfl hK hP hD hS hA hZ hl.1 rfl (Nat.le_of_ble_eq_true rfl) ⟨(Nat.le_of_ble_eq_true rfl), (Nat.le_of_ble_eq_true rfl)⟩ gdL_law_772 hcs (fun H locs hP hD hS => ?_)
    replace hq0 : BoxC v0.2 ∧ (Fr [(14, 9999), (23, 4), (24, 9999), (25, 9999), (26, 9999), (27, 9999)] oC v0.2) := hq0
    replace invC : INVC v0.2 (B + 740000) := invC.fr hB0 hq0.1 hq0.2 rfl rfl (fun _ => rfl) (fun _ => rfl) (fun _ => rfl) (fun _ => rfl) (fun _ => rfl) (fun _ => rfl)
    refine lv_pop hx hb gdL_law_775 rfl ?_
    refine lv_aload_n hx hb gdL_law_776 rfl (lv_at hl 1 rfl) ?_
    refine lv_aload_n hx hb gdL_law_777 rfl (lv_at hl 3 rfl) ?_
    refine lv_iload_n hx hb gdL_law_778 rfl (lv_at hl 0 rfl) ?_
    refine lv_iconst (v := Int32.ofInt 1) hx hb gdL_law_779 rfl ?_
    refine lv_iadd hx hb gdL_law_780 (lv_topk (oi_add i 1) ?_)
    refine va_sld hx hb hX hbl hbA hS (vin (by omega) (by omega) hL) gdL_law_781 ?_
    refine lv_topk (scr_i scr i 1) ?_
    refine lv_aload_n hx hb gdL_law_782 rfl (lv_at hl 3 rfl) ?_
    refine lv_iload_n hx hb gdL_law_783 rfl (lv_at hl 0 rfl) ?_
    refine lv_iconst (v := Int32.ofInt 2) hx hb gdL_law_784 rfl ?_
    refine lv_iadd hx hb gdL_law_785 (lv_topk (oi_add i 2) ?_)
    refine va_sld hx hb hX hbl hbA hS (vin (by omega) (by omega) hL) gdL_law_786 ?_
    refine lv_topk (scr_i scr i 2) ?_
    refine lv_aload_n hx hb gdL_law_787 rfl (lv_at hl 3 rfl) ?_
    refine lv_iload_n hx hb gdL_law_788 rfl (lv_at hl 0 rfl) ?_
    refine lv_iconst (v := Int32.ofInt 3) hx hb gdL_law_789 rfl ?_
    refine lv_iadd hx hb gdL_law_790 (lv_topk (oi_add i 3) ?_)
    refine va_sld hx hb hX hbl hbA hS (vin (by omega) (by omega) hL) gdL_law_791 ?_
    refine lv_topk (scr_i scr i 3) ?_
    refine lv_if_eq (tgt := 799) hx hb gdL_law_792 (by decide) (fun hz => ?_) (fun hz => ?_)
    ·
      refine lv_iconst (v := Int32.ofInt 0) hx hb gdL_law_799 rfl ?_
      refine lv_aload_n hx hb gdL_law_800 rfl (lv_at hl 3 rfl) ?_
      refine lv_iload_n hx hb gdL_law_801 rfl (lv_at hl 0 rfl) ?_
      refine lv_iconst (v := Int32.ofInt 4) hx hb gdL_law_802 rfl ?_
      refine lv_iadd hx hb gdL_law_803 (lv_topk (oi_add i 4) ?_)
      refine va_sld hx hb hX hbl hbA hS (vin (by omega) (by omega) hL) gdL_law_804 ?_
      refine lv_topk (scr_i scr i 4) ?_
      obtain ⟨v1, hv1, hq1⟩ := t_X12_person oM (scr_ scr i 1) (scr_ scr i 2) 0 (scr_ scr i 4) invM.1 (by omega) (by omega) (by omega) (by omega)
      refine kMi (oC := v0.2) (oM := oM) X (c_X12_person l g adM oM (scr_ scr i 1) (scr_ scr i 2) 0 (scr_ scr i 4) v1 hv1) rfl okm_X12_person okw_X12_person w_1839 rfl hK hP hD hS hA hZ hl.1 rfl (Nat.le_of_ble_eq_true rfl) ⟨(Nat.le_of_ble_eq_true rfl), (Nat.le_of_ble_eq_true rfl)⟩ gdL_law_805 hcs (fun H locs hP hD hS => ?_)
      replace hq1 : BoxM v1.2 ∧ (Fr [(0, 27), (21, 9999), (22, 9999), (23, 9999), (24, 9999)] oM v1.2) := hq1
      replace invM : INVM v1.2 := invM.fr hq1.1 hq1.2 rfl rfl (fun _ => rfl)
      refine lv_pop hx hb gdL_law_808 rfl ?_
      refine lv_goto (tgt := 1952) hx hb gdL_law_809 (by decide) ?_
      have hR9 : REL v0.2 v1.2 := ⟨hR.1.fr hq0.2 hq1.2 (fun _ => rfl) (fun _ => rfl) (fun _ => rfl) (fun _ => rfl), hR.2.1.fr hq0.2 hq1.2 (fun _ => rfl) (fun _ => rfl) (fun _ => rfl) (fun _ => rfl), day_fr hR.2.2.1 hq0.2 hq1.2 rfl rfl, hR.2.2.2.1.fr hq0.2 hq1.2 rfl rfl (fun _ => rfl) (fun _ => rfl) (fun _ => rfl) (fun _ => rfl) (fun _ => rfl) (fun _ => rfl), hR.2.2.2.2.fr hq0.2 hq1.2 rfl rfl (fun _ => rfl) (fun _ => rfl)⟩
      exact kend v0.2 v1.2 _ _ _ invC invM hR9 hP hD hS hl
    ·
      refine lv_iconst (v := Int32.ofInt 1) hx hb gdL_law_795 rfl ?_
      refine lv_goto (tgt := 800) hx hb gdL_law_796 (by decide) ?_
      refine lv_aload_n hx hb gdL_law_800 rfl (lv_at hl 3 rfl) ?_
      refine lv_iload_n hx hb gdL_law_801 rfl (lv_at hl 0 rfl) ?_
      refine lv_iconst (v := Int32.ofInt 4) hx hb gdL_law_802 rfl ?_
      refine lv_iadd hx hb gdL_law_803 (lv_topk (oi_add i 4) ?_)
      refine va_sld hx hb hX hbl hbA hS (vin (by omega) (by omega) hL) gdL_law_804 ?_
      refine lv_topk (scr_i scr i 4) ?_
      obtain ⟨v2, hv2, hq2⟩ := t_X12_person oM (scr_ scr i 1) (scr_ scr i 2) 1 (scr_ scr i 4) invM.1 (by omega) (by omega) (by omega) (by omega)
      refine kMi (oC := v0.2) (oM := oM) X (c_X12_person l g adM oM (scr_ scr i 1) (scr_ scr i 2) 1 (scr_ scr i 4) v2 hv2) rfl okm_X12_person okw_X12_person w_1839 rfl hK hP hD hS hA hZ hl.1 rfl (Nat.le_of_ble_eq_true rfl) ⟨(Nat.le_of_ble_eq_true rfl), (Nat.le_of_ble_eq_true rfl)⟩ gdL_law_805 hcs (fun H locs hP hD hS => ?_)
      replace hq2 : BoxM v2.2 ∧ (Fr [(0, 27), (21, 9999), (22, 9999), (23, 9999), (24, 9999)] oM v2.2) := hq2
      replace invM : INVM v2.2 := invM.fr hq2.1 hq2.2 rfl rfl (fun _ => rfl)
      refine lv_pop hx hb gdL_law_808 rfl ?_
      refine lv_goto (tgt := 1952) hx hb gdL_law_809 (by decide) ?_
      have hR9 : REL v0.2 v2.2 := ⟨hR.1.fr hq0.2 hq2.2 (fun _ => rfl) (fun _ => rfl) (fun _ => rfl) (fun _ => rfl), hR.2.1.fr hq0.2 hq2.2 (fun _ => rfl) (fun _ => rfl) (fun _ => rfl) (fun _ => rfl), day_fr hR.2.2.1 hq0.2 hq2.2 rfl rfl, hR.2.2.2.1.fr hq0.2 hq2.2 rfl rfl (fun _ => rfl) (fun _ => rfl) (fun _ => rfl) (fun _ => rfl) (fun _ => rfl) (fun _ => rfl), hR.2.2.2.2.fr hq0.2 hq2.2 rfl rfl (fun _ => rfl) (fun _ => rfl)⟩
      exact kend v0.2 v2.2 _ _ _ invC invM hR9 hP hD hS hl
  ·
    refine lv_iconst (v := Int32.ofInt 1) hx hb gdL_law_762 rfl ?_
    refine lv_goto (tgt := 767) hx hb gdL_law_763 (by decide) ?_
    refine lv_aload_n hx hb gdL_law_767 rfl (lv_at hl 3 rfl) ?_
    refine lv_iload_n hx hb gdL_law_768 rfl (lv_at hl 0 rfl) ?_
    refine lv_iconst (v := Int32.ofInt 4) hx hb gdL_law_769 rfl ?_
    refine lv_iadd hx hb gdL_law_770 (lv_topk (oi_add i 4) ?_)
    refine va_sld hx hb hX hbl hbA hS (vin (by omega) (by omega) hL) gdL_law_771 ?_
    refine lv_topk (scr_i scr i 4) ?_
    obtain ⟨v3, hv3, hq3⟩ := t_X11_person oC (scr_ scr i 1) (scr_ scr i 2) 1 (scr_ scr i 4) invC.1 (by omega) (by omega) (by omega) (by omega)
    refine kCi (oC := oC) (oM := oM) X (c_X11_person l g adC oC (scr_ scr i 1) (scr_ scr i 2) 1 (scr_ scr i 4) v3 hv3) rfl okm_X11_person okw_X11_person w_699 rfl hK hP hD hS hA hZ hl.1 rfl (Nat.le_of_ble_eq_true rfl) ⟨(Nat.le_of_ble_eq_true rfl), (Nat.le_of_ble_eq_true rfl)⟩ gdL_law_772 hcs (fun H locs hP hD hS => ?_)
    replace hq3 : BoxC v3.2 ∧ (Fr [(14, 9999), (23, 4), (24, 9999), (25, 9999), (26, 9999), (27, 9999)] oC v3.2) := hq3
    replace invC : INVC v3.2 (B + 740000) := invC.fr hB0 hq3.1 hq3.2 rfl rfl (fun _ => rfl) (fun _ => rfl) (fun _ => rfl) (fun _ => rfl) (fun _ => rfl) (fun _ => rfl)
    refine lv_pop hx hb gdL_law_775 rfl ?_
    refine lv_aload_n hx hb gdL_law_776 rfl (lv_at hl 1 rfl) ?_
    refine lv_aload_n hx hb gdL_law_777 rfl (lv_at hl 3 rfl) ?_
    refine lv_iload_n hx hb gdL_law_778 rfl (lv_at hl 0 rfl) ?_
    refine lv_iconst (v := Int32.ofInt 1) hx hb gdL_law_779 rfl ?_
    refine lv_iadd hx hb gdL_law_780 (lv_topk (oi_add i 1) ?_)
    refine va_sld hx hb hX hbl hbA hS (vin (by omega) (by omega) hL) gdL_law_781 ?_
    refine lv_topk (scr_i scr i 1) ?_
    refine lv_aload_n hx hb gdL_law_782 rfl (lv_at hl 3 rfl) ?_
    refine lv_iload_n hx hb gdL_law_783 rfl (lv_at hl 0 rfl) ?_
    refine lv_iconst (v := Int32.ofInt 2) hx hb gdL_law_784 rfl ?_
    refine lv_iadd hx hb gdL_law_785 (lv_topk (oi_add i 2) ?_)
    refine va_sld hx hb hX hbl hbA hS (vin (by omega) (by omega) hL) gdL_law_786 ?_
    refine lv_topk (scr_i scr i 2) ?_
    refine lv_aload_n hx hb gdL_law_787 rfl (lv_at hl 3 rfl) ?_
    refine lv_iload_n hx hb gdL_law_788 rfl (lv_at hl 0 rfl) ?_
    refine lv_iconst (v := Int32.ofInt 3) hx hb gdL_law_789 rfl ?_
    refine lv_iadd hx hb gdL_law_790 (lv_topk (oi_add i 3) ?_)
    refine va_sld hx hb hX hbl hbA hS (vin (by omega) (by omega) hL) gdL_law_791 ?_
    refine lv_topk (scr_i scr i 3) ?_
    refine lv_if_eq (tgt := 799) hx hb gdL_law_792 (by decide) (fun hz => ?_) (fun hz => ?_)
    ·
      refine lv_iconst (v := Int32.ofInt 0) hx hb gdL_law_799 rfl ?_
      refine lv_aload_n hx hb gdL_law_800 rfl (lv_at hl 3 rfl) ?_
      refine lv_iload_n hx hb gdL_law_801 rfl (lv_at hl 0 rfl) ?_
      refine lv_iconst (v := Int32.ofInt 4) hx hb gdL_law_802 rfl ?_
      refine lv_iadd hx hb gdL_law_803 (lv_topk (oi_add i 4) ?_)
      refine va_sld hx hb hX hbl hbA hS (vin (by omega) (by omega) hL) gdL_law_804 ?_
      refine lv_topk (scr_i scr i 4) ?_
      obtain ⟨v4, hv4, hq4⟩ := t_X12_person oM (scr_ scr i 1) (scr_ scr i 2) 0 (scr_ scr i 4) invM.1 (by omega) (by omega) (by omega) (by omega)
      refine kMi (oC := v3.2) (oM := oM) X (c_X12_person l g adM oM (scr_ scr i 1) (scr_ scr i 2) 0 (scr_ scr i 4) v4 hv4) rfl okm_X12_person okw_X12_person w_1839 rfl hK hP hD hS hA hZ hl.1 rfl (Nat.le_of_ble_eq_true rfl) ⟨(Nat.le_of_ble_eq_true rfl), (Nat.le_of_ble_eq_true rfl)⟩ gdL_law_805 hcs (fun H locs hP hD hS => ?_)
      replace hq4 : BoxM v4.2 ∧ (Fr [(0, 27), (21, 9999), (22, 9999), (23, 9999), (24, 9999)] oM v4.2) := hq4
      replace invM : INVM v4.2 := invM.fr hq4.1 hq4.2 rfl rfl (fun _ => rfl)
      refine lv_pop hx hb gdL_law_808 rfl ?_
      refine lv_goto (tgt := 1952) hx hb gdL_law_809 (by decide) ?_
      have hR9 : REL v3.2 v4.2 := ⟨hR.1.fr hq3.2 hq4.2 (fun _ => rfl) (fun _ => rfl) (fun _ => rfl) (fun _ => rfl), hR.2.1.fr hq3.2 hq4.2 (fun _ => rfl) (fun _ => rfl) (fun _ => rfl) (fun _ => rfl), day_fr hR.2.2.1 hq3.2 hq4.2 rfl rfl, hR.2.2.2.1.fr hq3.2 hq4.2 rfl rfl (fun _ => rfl) (fun _ => rfl) (fun _ => rfl) (fun _ => rfl) (fun _ => rfl) (fun _ => rfl), hR.2.2.2.2.fr hq3.2 hq4.2 rfl rfl (fun _ => rfl) (fun _ => rfl)⟩
      exact kend v3.2 v4.2 _ _ _ invC invM hR9 hP hD hS hl
    ·
      refine lv_iconst (v := Int32.ofInt 1) hx hb gdL_law_795 rfl ?_
      refine lv_goto (tgt := 800) hx hb gdL_law_796 (by decide) ?_
      refine lv_aload_n hx hb gdL_law_800 rfl (lv_at hl 3 rfl) ?_
      refine lv_iload_n hx hb gdL_law_801 rfl (lv_at hl 0 rfl) ?_
      refine lv_iconst (v := Int32.ofInt 4) hx hb gdL_law_802 rfl ?_
      refine lv_iadd hx hb gdL_law_803 (lv_topk (oi_add i 4) ?_)
      refine va_sld hx hb hX hbl hbA hS (vin (by omega) (by omega) hL) gdL_law_804 ?_
      refine lv_topk (scr_i scr i 4) ?_
      obtain ⟨v5, hv5, hq5⟩ := t_X12_person oM (scr_ scr i 1) (scr_ scr i 2) 1 (scr_ scr i 4) invM.1 (by omega) (by omega) (by omega) (by omega)
      refine kMi (oC := v3.2) (oM := oM) X (c_X12_person l g adM oM (scr_ scr i 1) (scr_ scr i 2) 1 (scr_ scr i 4) v5 hv5) rfl okm_X12_person okw_X12_person w_1839 rfl hK hP hD hS hA hZ hl.1 rfl (Nat.le_of_ble_eq_true rfl) ⟨(Nat.le_of_ble_eq_true rfl), (Nat.le_of_ble_eq_true rfl)⟩ gdL_law_805 hcs (fun H locs hP hD hS => ?_)
      replace hq5 : BoxM v5.2 ∧ (Fr [(0, 27), (21, 9999), (22, 9999), (23, 9999), (24, 9999)] oM v5.2) := hq5
      replace invM : INVM v5.2 := invM.fr hq5.1 hq5.2 rfl rfl (fun _ => rfl)
      refine lv_pop hx hb gdL_law_808 rfl ?_
      refine lv_goto (tgt := 1952) hx hb gdL_law_809 (by decide) ?_
      have hR9 : REL v3.2 v5.2 := ⟨hR.1.fr hq3.2 hq5.2 (fun _ => rfl) (fun _ => rfl) (fun _ => rfl) (fun _ => rfl), hR.2.1.fr hq3.2 hq5.2 (fun _ => rfl) (fun _ => rfl) (fun _ => rfl) (fun _ => rfl), day_fr hR.2.2.1 hq3.2 hq5.2 rfl rfl, hR.2.2.2.1.fr hq3.2 hq5.2 rfl rfl (fun _ => rfl) (fun _ => rfl) (fun _ => rfl) (fun _ => rfl) (fun _ => rfl) (fun _ => rfl), hR.2.2.2.2.fr hq3.2 hq5.2 rfl rfl (fun _ => rfl) (fun _ => rfl)⟩
      exact kend v3.2 v5.2 _ _ _ invC invM hR9 hP hD hS hl
set_option maxHeartbeats 4000000 in
set_option maxRecDepth 100000 in
theorem law_14 (l : Launch) (g : GG) {p : Program} {e : Env} {s : State} {m : MethodId} {below : List Frame} {meth : Method} {c : Code} {b L : Nat} {scr : Nat → Int32} {A : Nat → Prop} {Q : State → Prop} {cells slots : Nat} {H : Heap} {locs : List Loc} {ls : Array Slot} {adC adM : Nat → Nat} {oC oM : OO} {B i : Int} (X : En p s m #[Value.ref b] meth c cL_law 4 ret R_law meth.name) (hK : va_K g.1 classes (tyG g) s) (hA : ∀ q, s.heap.size ≤ q → A q) (hZ : stS g A s s.heap) (hX : va_X b L scr s s.heap) (hbl : b < s.heap.size) (hbA : ¬ A b) (hcs : cells + 0 ≤ room_1.cells ∧ slots + 0 ≤ room_1.slots) (hL : L ≤ 3072) (i0 : 0 ≤ i) (i1 : i + 6 ≤ (L : Int)) (hB0 : 0 ≤ B) (hB1 : B ≤ 379000000) (invC : INVC oC B) (invM : INVM oM) (hR : REL oC oM) (hP : va_P g.1 classes (wC g adC oC ++ wM g adM oM) H) (hD : va_D A (wC g adC oC ++ wM g adM oM)) (hS : va_S A s.heap H locs) (hl : lv_has ls 4 [(3, iv i), (2, .ref (adM 0)), (1, .ref (adC 0)), (0, .ref b)])
    (kend : ∀ (oC oM : OO) (H : Heap) (locs : List Loc) (ls : Array Slot), INVC oC (B + 740000) → INVM oM → REL oC oM → va_P g.1 classes (wC g adC oC ++ wM g adM oM) H → va_D A (wC g adC oC ++ wM g adM oM) → va_S A s.heap H locs → lv_has ls 4 [(3, iv i), (2, .ref (adM 0)), (1, .ref (adC 0)), (0, .ref b)] → W p l e room_1 s m #[Value.ref b] below meth c H locs cells slots Q (F0 m 1952 ls [])) : W p l e room_1 s m #[Value.ref b] below meth c H locs cells slots Q (F0 m 812 ls []) := by
  have hx := X.1
  have hb := X.2.1
  have sr1 := scr_R scr i 1
  have sr2 := scr_R scr i 2
  have sr3 := scr_R scr i 3
  have sr4 := scr_R scr i 4
  have sr5 := scr_R scr i 5
  have iC0 := invC
  have iM0 := invM
  refine lv_aload_n hx hb gdL_law_812 rfl (lv_at hl 2 rfl) ?_
  refine lv_aload_n hx hb gdL_law_813 rfl (lv_at hl 3 rfl) ?_
  refine lv_iload_n hx hb gdL_law_814 rfl (lv_at hl 0 rfl) ?_
  refine lv_iconst (v := Int32.ofInt 1) hx hb gdL_law_815 rfl ?_
  refine lv_iadd hx hb gdL_law_816 (lv_topk (oi_add i 1) ?_)
  refine va_sld hx hb hX hbl hbA hS (vin (by omega) (by omega) hL) gdL_law_817 ?_
  refine lv_topk (scr_i scr i 1) ?_
  refine lv_aload_n hx hb gdL_law_818 rfl (lv_at hl 3 rfl) ?_
  refine lv_iload_n hx hb gdL_law_819 rfl (lv_at hl 0 rfl) ?_
  refine lv_iconst (v := Int32.ofInt 2) hx hb gdL_law_820 rfl ?_
  refine lv_iadd hx hb gdL_law_821 (lv_topk (oi_add i 2) ?_)
  refine va_sld hx hb hX hbl hbA hS (vin (by omega) (by omega) hL) gdL_law_822 ?_
  refine lv_topk (scr_i scr i 2) ?_
  obtain ⟨v0, hv0, hq0⟩ := t_X11_who oC (scr_ scr i 1) (scr_ scr i 2) invC.1 (by omega) (by omega)
  refine kCi (oC := oC) (oM := oM) X (c_X11_who l g adC oC (scr_ scr i 1) (scr_ scr i 2) v0 hv0) rfl okm_X11_who okw_X11_who w_731 rfl hK hP hD hS hA hZ hl.1 rfl (Nat.le_of_ble_eq_true rfl) ⟨(Nat.le_of_ble_eq_true rfl), (Nat.le_of_ble_eq_true rfl)⟩ gdL_law_823 hcs (fun H locs hP hD hS => ?_)
  replace hq0 : BoxC v0.2 ∧ (Fr [(0, 14)] oC v0.2) := hq0
  replace invC : INVC v0.2 (B + 740000) := invC.fr hB0 hq0.1 hq0.2 rfl rfl (fun _ => rfl) (fun _ => rfl) (fun _ => rfl) (fun _ => rfl) (fun _ => rfl) (fun _ => rfl)
  refine lv_pop hx hb gdL_law_826 rfl ?_
  refine lv_aload_n hx hb gdL_law_827 rfl (lv_at hl 1 rfl) ?_
  refine lv_aload_n hx hb gdL_law_828 rfl (lv_at hl 3 rfl) ?_
  refine lv_iload_n hx hb gdL_law_829 rfl (lv_at hl 0 rfl) ?_
  refine lv_iconst (v := Int32.ofInt 1) hx hb gdL_law_830 rfl ?_
  refine lv_iadd hx hb gdL_law_831 (lv_topk (oi_add i 1) ?_)
  refine va_sld hx hb hX hbl hbA hS (vin (by omega) (by omega) hL) gdL_law_832 ?_
  refine lv_topk (scr_i scr i 1) ?_
  refine lv_aload_n hx hb gdL_law_833 rfl (lv_at hl 3 rfl) ?_
  refine lv_iload_n hx hb gdL_law_834 rfl (lv_at hl 0 rfl) ?_
  refine lv_iconst (v := Int32.ofInt 2) hx hb gdL_law_835 rfl ?_
  refine lv_iadd hx hb gdL_law_836 (lv_topk (oi_add i 2) ?_)
  refine va_sld hx hb hX hbl hbA hS (vin (by omega) (by omega) hL) gdL_law_837 ?_
  refine lv_topk (scr_i scr i 2) ?_
  obtain ⟨v1, hv1, hq1⟩ := t_X12_who oM (scr_ scr i 1) (scr_ scr i 2) invM.1 (by omega) (by omega)
  refine kMi (oC := v0.2) (oM := oM) X (c_X12_who l g adM oM (scr_ scr i 1) (scr_ scr i 2) v1 hv1) rfl okm_X12_who okw_X12_who w_1847 rfl hK hP hD hS hA hZ hl.1 rfl (Nat.le_of_ble_eq_true rfl) ⟨(Nat.le_of_ble_eq_true rfl), (Nat.le_of_ble_eq_true rfl)⟩ gdL_law_838 hcs (fun H locs hP hD hS => ?_)
  replace hq1 : BoxM v1.2 ∧ (Fr [(0, 2)] oM v1.2) := hq1
  replace invM : INVM v1.2 := invM.fr hq1.1 hq1.2 rfl rfl (fun _ => rfl)
  refine lv_pop hx hb gdL_law_841 rfl ?_
  refine lv_goto (tgt := 1952) hx hb gdL_law_842 (by decide) ?_
  have hR9 : REL v0.2 v1.2 := ⟨hR.1.fr hq0.2 hq1.2 (fun _ => rfl) (fun _ => rfl) (fun _ => rfl) (fun _ => rfl), hR.2.1.fr hq0.2 hq1.2 (fun _ => rfl) (fun _ => rfl) (fun _ => rfl) (fun _ => rfl), day_fr hR.2.2.1 hq0.2 hq1.2 rfl rfl, hR.2.2.2.1.fr hq0.2 hq1.2 rfl rfl (fun _ => rfl) (fun _ => rfl) (fun _ => rfl) (fun _ => rfl) (fun _ => rfl) (fun _ => rfl), hR.2.2.2.2.fr hq0.2 hq1.2 rfl rfl (fun _ => rfl) (fun _ => rfl)⟩
  exact kend v0.2 v1.2 _ _ _ invC invM hR9 hP hD hS hl
set_option maxHeartbeats 4000000 in
set_option maxRecDepth 100000 in
theorem law_15 (l : Launch) (g : GG) {p : Program} {e : Env} {s : State} {m : MethodId} {below : List Frame} {meth : Method} {c : Code} {b L : Nat} {scr : Nat → Int32} {A : Nat → Prop} {Q : State → Prop} {cells slots : Nat} {H : Heap} {locs : List Loc} {ls : Array Slot} {adC adM : Nat → Nat} {oC oM : OO} {B i : Int} (X : En p s m #[Value.ref b] meth c cL_law 4 ret R_law meth.name) (hK : va_K g.1 classes (tyG g) s) (hA : ∀ q, s.heap.size ≤ q → A q) (hZ : stS g A s s.heap) (hX : va_X b L scr s s.heap) (hbl : b < s.heap.size) (hbA : ¬ A b) (hcs : cells + 0 ≤ room_1.cells ∧ slots + 0 ≤ room_1.slots) (hL : L ≤ 3072) (i0 : 0 ≤ i) (i1 : i + 6 ≤ (L : Int)) (hB0 : 0 ≤ B) (hB1 : B ≤ 379000000) (invC : INVC oC B) (invM : INVM oM) (hR : REL oC oM) (hP : va_P g.1 classes (wC g adC oC ++ wM g adM oM) H) (hD : va_D A (wC g adC oC ++ wM g adM oM)) (hS : va_S A s.heap H locs) (hl : lv_has ls 4 [(3, iv i), (2, .ref (adM 0)), (1, .ref (adC 0)), (0, .ref b)])
    (kend : ∀ (oC oM : OO) (H : Heap) (locs : List Loc) (ls : Array Slot), INVC oC (B + 740000) → INVM oM → REL oC oM → va_P g.1 classes (wC g adC oC ++ wM g adM oM) H → va_D A (wC g adC oC ++ wM g adM oM) → va_S A s.heap H locs → lv_has ls 4 [(3, iv i), (2, .ref (adM 0)), (1, .ref (adC 0)), (0, .ref b)] → W p l e room_1 s m #[Value.ref b] below meth c H locs cells slots Q (F0 m 1952 ls [])) : W p l e room_1 s m #[Value.ref b] below meth c H locs cells slots Q (F0 m 845 ls []) := by
  have hx := X.1
  have hb := X.2.1
  have sr1 := scr_R scr i 1
  have sr2 := scr_R scr i 2
  have sr3 := scr_R scr i 3
  have sr4 := scr_R scr i 4
  have sr5 := scr_R scr i 5
  have iC0 := invC
  have iM0 := invM
  refine lv_aload_n hx hb gdL_law_845 rfl (lv_at hl 2 rfl) ?_
  refine lv_aload_n hx hb gdL_law_846 rfl (lv_at hl 3 rfl) ?_
  refine lv_iload_n hx hb gdL_law_847 rfl (lv_at hl 0 rfl) ?_
  refine lv_iconst (v := Int32.ofInt 1) hx hb gdL_law_848 rfl ?_
  refine lv_iadd hx hb gdL_law_849 (lv_topk (oi_add i 1) ?_)
  refine va_sld hx hb hX hbl hbA hS (vin (by omega) (by omega) hL) gdL_law_850 ?_
  refine lv_topk (scr_i scr i 1) ?_
  obtain ⟨v0, hv0, hq0⟩ := t_X11_mean oC (scr_ scr i 1) invC.1 (by omega)
  refine kCi (oC := oC) (oM := oM) X (c_X11_mean l g adC oC (scr_ scr i 1) v0 hv0) rfl okm_X11_mean okw_X11_mean w_743 rfl hK hP hD hS hA hZ hl.1 rfl (Nat.le_of_ble_eq_true rfl) ⟨(Nat.le_of_ble_eq_true rfl), (Nat.le_of_ble_eq_true rfl)⟩ gdL_law_851 hcs (fun H locs hP hD hS => ?_)
  replace hq0 : BoxC v0.2 ∧ (Fr [(0, 14), (0, 17), (77, 9999)] oC v0.2) := hq0
  replace invC : INVC v0.2 (B + 740000) := invC.fr hB0 hq0.1 hq0.2 rfl rfl (fun _ => rfl) (fun _ => rfl) (fun _ => rfl) (fun _ => rfl) (fun _ => rfl) (fun _ => rfl)
  refine lv_pop hx hb gdL_law_854 rfl ?_
  refine lv_aload_n hx hb gdL_law_855 rfl (lv_at hl 1 rfl) ?_
  refine lv_aload_n hx hb gdL_law_856 rfl (lv_at hl 3 rfl) ?_
  refine lv_iload_n hx hb gdL_law_857 rfl (lv_at hl 0 rfl) ?_
  refine lv_iconst (v := Int32.ofInt 1) hx hb gdL_law_858 rfl ?_
  refine lv_iadd hx hb gdL_law_859 (lv_topk (oi_add i 1) ?_)
  refine va_sld hx hb hX hbl hbA hS (vin (by omega) (by omega) hL) gdL_law_860 ?_
  refine lv_topk (scr_i scr i 1) ?_
  obtain ⟨v1, hv1, hq1⟩ := t_X12_mean oM (scr_ scr i 1) invM.1 (by omega)
  refine kMi (oC := v0.2) (oM := oM) X (c_X12_mean l g adM oM (scr_ scr i 1) v1 hv1) rfl okm_X12_mean okw_X12_mean w_1859 rfl hK hP hD hS hA hZ hl.1 rfl (Nat.le_of_ble_eq_true rfl) ⟨(Nat.le_of_ble_eq_true rfl), (Nat.le_of_ble_eq_true rfl)⟩ gdL_law_861 hcs (fun H locs hP hD hS => ?_)
  replace hq1 : BoxM v1.2 ∧ (Fr [(0, 0), (0, 2), (1, 9999)] oM v1.2) := hq1
  replace invM : INVM v1.2 := invM.fr hq1.1 hq1.2 rfl rfl (fun _ => rfl)
  refine lv_pop hx hb gdL_law_864 rfl ?_
  refine lv_goto (tgt := 1952) hx hb gdL_law_865 (by decide) ?_
  have hR9 : REL v0.2 v1.2 := ⟨hR.1.fr hq0.2 hq1.2 (fun _ => rfl) (fun _ => rfl) (fun _ => rfl) (fun _ => rfl), hR.2.1.fr hq0.2 hq1.2 (fun _ => rfl) (fun _ => rfl) (fun _ => rfl) (fun _ => rfl), day_fr hR.2.2.1 hq0.2 hq1.2 rfl rfl, hR.2.2.2.1.fr hq0.2 hq1.2 rfl rfl (fun _ => rfl) (fun _ => rfl) (fun _ => rfl) (fun _ => rfl) (fun _ => rfl) (fun _ => rfl), hR.2.2.2.2.fr hq0.2 hq1.2 rfl rfl (fun _ => rfl) (fun _ => rfl)⟩
  exact kend v0.2 v1.2 _ _ _ invC invM hR9 hP hD hS hl
set_option maxHeartbeats 4000000 in
set_option maxRecDepth 100000 in
theorem law_16 (l : Launch) (g : GG) {p : Program} {e : Env} {s : State} {m : MethodId} {below : List Frame} {meth : Method} {c : Code} {b L : Nat} {scr : Nat → Int32} {A : Nat → Prop} {Q : State → Prop} {cells slots : Nat} {H : Heap} {locs : List Loc} {ls : Array Slot} {adC adM : Nat → Nat} {oC oM : OO} {B i : Int} (X : En p s m #[Value.ref b] meth c cL_law 4 ret R_law meth.name) (hK : va_K g.1 classes (tyG g) s) (hA : ∀ q, s.heap.size ≤ q → A q) (hZ : stS g A s s.heap) (hX : va_X b L scr s s.heap) (hbl : b < s.heap.size) (hbA : ¬ A b) (hcs : cells + 0 ≤ room_1.cells ∧ slots + 0 ≤ room_1.slots) (hL : L ≤ 3072) (i0 : 0 ≤ i) (i1 : i + 6 ≤ (L : Int)) (hB0 : 0 ≤ B) (hB1 : B ≤ 379000000) (invC : INVC oC B) (invM : INVM oM) (hR : REL oC oM) (hP : va_P g.1 classes (wC g adC oC ++ wM g adM oM) H) (hD : va_D A (wC g adC oC ++ wM g adM oM)) (hS : va_S A s.heap H locs) (hl : lv_has ls 4 [(3, iv i), (2, .ref (adM 0)), (1, .ref (adC 0)), (0, .ref b)])
    (kend : ∀ (oC oM : OO) (H : Heap) (locs : List Loc) (ls : Array Slot), INVC oC (B + 740000) → INVM oM → REL oC oM → va_P g.1 classes (wC g adC oC ++ wM g adM oM) H → va_D A (wC g adC oC ++ wM g adM oM) → va_S A s.heap H locs → lv_has ls 4 [(3, iv i), (2, .ref (adM 0)), (1, .ref (adC 0)), (0, .ref b)] → W p l e room_1 s m #[Value.ref b] below meth c H locs cells slots Q (F0 m 1952 ls [])) : W p l e room_1 s m #[Value.ref b] below meth c H locs cells slots Q (F0 m 868 ls []) := by
  have hx := X.1
  have hb := X.2.1
  have sr1 := scr_R scr i 1
  have sr2 := scr_R scr i 2
  have sr3 := scr_R scr i 3
  have sr4 := scr_R scr i 4
  have sr5 := scr_R scr i 5
  have iC0 := invC
  have iM0 := invM
  refine lv_aload_n hx hb gdL_law_868 rfl (lv_at hl 2 rfl) ?_
  refine lv_aload_n hx hb gdL_law_869 rfl (lv_at hl 3 rfl) ?_
  refine lv_iload_n hx hb gdL_law_870 rfl (lv_at hl 0 rfl) ?_
  refine lv_iconst (v := Int32.ofInt 1) hx hb gdL_law_871 rfl ?_
  refine lv_iadd hx hb gdL_law_872 (lv_topk (oi_add i 1) ?_)
  refine va_sld hx hb hX hbl hbA hS (vin (by omega) (by omega) hL) gdL_law_873 ?_
  refine lv_topk (scr_i scr i 1) ?_
  refine lv_aload_n hx hb gdL_law_874 rfl (lv_at hl 3 rfl) ?_
  refine lv_iload_n hx hb gdL_law_875 rfl (lv_at hl 0 rfl) ?_
  refine lv_iconst (v := Int32.ofInt 2) hx hb gdL_law_876 rfl ?_
  refine lv_iadd hx hb gdL_law_877 (lv_topk (oi_add i 2) ?_)
  refine va_sld hx hb hX hbl hbA hS (vin (by omega) (by omega) hL) gdL_law_878 ?_
  refine lv_topk (scr_i scr i 2) ?_
  obtain ⟨v0, hv0, hq0⟩ := t_X11_rule oC (scr_ scr i 1) (scr_ scr i 2) invC.1 (by omega) (by omega)
  refine kCi (oC := oC) (oM := oM) X (c_X11_rule l g adC oC (scr_ scr i 1) (scr_ scr i 2) v0 hv0) rfl okm_X11_rule okw_X11_rule w_748 rfl hK hP hD hS hA hZ hl.1 rfl (Nat.le_of_ble_eq_true rfl) ⟨(Nat.le_of_ble_eq_true rfl), (Nat.le_of_ble_eq_true rfl)⟩ gdL_law_879 hcs (fun H locs hP hD hS => ?_)
  replace hq0 : BoxC v0.2 ∧ (Fr [(0, 17), (28, 3), (29, 9999), (30, 9999), (31, 9999), (77, 9999)] oC v0.2) := hq0
  replace invC : INVC v0.2 (B + 740000) := invC.fr hB0 hq0.1 hq0.2 rfl rfl (fun _ => rfl) (fun _ => rfl) (fun _ => rfl) (fun _ => rfl) (fun _ => rfl) (fun _ => rfl)
  refine lv_pop hx hb gdL_law_882 rfl ?_
  refine lv_aload_n hx hb gdL_law_883 rfl (lv_at hl 1 rfl) ?_
  refine lv_aload_n hx hb gdL_law_884 rfl (lv_at hl 3 rfl) ?_
  refine lv_iload_n hx hb gdL_law_885 rfl (lv_at hl 0 rfl) ?_
  refine lv_iconst (v := Int32.ofInt 1) hx hb gdL_law_886 rfl ?_
  refine lv_iadd hx hb gdL_law_887 (lv_topk (oi_add i 1) ?_)
  refine va_sld hx hb hX hbl hbA hS (vin (by omega) (by omega) hL) gdL_law_888 ?_
  refine lv_topk (scr_i scr i 1) ?_
  refine lv_aload_n hx hb gdL_law_889 rfl (lv_at hl 3 rfl) ?_
  refine lv_iload_n hx hb gdL_law_890 rfl (lv_at hl 0 rfl) ?_
  refine lv_iconst (v := Int32.ofInt 2) hx hb gdL_law_891 rfl ?_
  refine lv_iadd hx hb gdL_law_892 (lv_topk (oi_add i 2) ?_)
  refine va_sld hx hb hX hbl hbA hS (vin (by omega) (by omega) hL) gdL_law_893 ?_
  refine lv_topk (scr_i scr i 2) ?_
  obtain ⟨v1, hv1, hq1⟩ := t_X12_rule oM (scr_ scr i 1) (scr_ scr i 2) invM.1 (by omega) (by omega)
  refine kMi (oC := v0.2) (oM := oM) X (c_X12_rule l g adM oM (scr_ scr i 1) (scr_ scr i 2) v1 hv1) rfl okm_X12_rule okw_X12_rule w_1758 rfl hK hP hD hS hA hZ hl.1 rfl (Nat.le_of_ble_eq_true rfl) ⟨(Nat.le_of_ble_eq_true rfl), (Nat.le_of_ble_eq_true rfl)⟩ gdL_law_894 hcs (fun H locs hP hD hS => ?_)
  replace hq1 : BoxM v1.2 ∧ (Fr [(0, 0), (0, 10), (1, 9999), (7, 9999), (8, 9999), (9, 9999), (10, 9999)] oM v1.2) := hq1
  replace invM : INVM v1.2 := invM.fr hq1.1 hq1.2 rfl rfl (fun _ => rfl)
  have hsp : v0.1 = v1.1 ∧ RU v0.2 v1.2 := RU.rule hR.2.2.2.1 hR.2.1 hR.2.2.1 (BM10 iM0.1).1 (bM_5 iM0.1) (ra_rule_C (BC40 iC0.1) (bC_5 iC0.1) (BC28 iC0.1) (scr_ scr i 1) (scr_ scr i 2) _ hv0) (ra_rule_M (bM_5 iM0.1) (BM10 iM0.1).1 (BM10 iM0.1).2 (scr_ scr i 1) (scr_ scr i 2) _ hv1)
  refine lv_pop hx hb gdL_law_897 rfl ?_
  refine lv_goto (tgt := 1952) hx hb gdL_law_898 (by decide) ?_
  have hR9 : REL v0.2 v1.2 := ⟨hR.1.fr hq0.2 hq1.2 (fun _ => rfl) (fun _ => rfl) (fun _ => rfl) (fun _ => rfl), hR.2.1.fr hq0.2 hq1.2 (fun _ => rfl) (fun _ => rfl) (fun _ => rfl) (fun _ => rfl), day_fr hR.2.2.1 hq0.2 hq1.2 rfl rfl, hsp.2, hR.2.2.2.2.fr hq0.2 hq1.2 rfl rfl (fun _ => rfl) (fun _ => rfl)⟩
  exact kend v0.2 v1.2 _ _ _ invC invM hR9 hP hD hS hl
set_option maxHeartbeats 4000000 in
set_option maxRecDepth 100000 in
theorem law_17 (l : Launch) (g : GG) {p : Program} {e : Env} {s : State} {m : MethodId} {below : List Frame} {meth : Method} {c : Code} {b L : Nat} {scr : Nat → Int32} {A : Nat → Prop} {Q : State → Prop} {cells slots : Nat} {H : Heap} {locs : List Loc} {ls : Array Slot} {adC adM : Nat → Nat} {oC oM : OO} {B i : Int} (X : En p s m #[Value.ref b] meth c cL_law 4 ret R_law meth.name) (hK : va_K g.1 classes (tyG g) s) (hA : ∀ q, s.heap.size ≤ q → A q) (hZ : stS g A s s.heap) (hX : va_X b L scr s s.heap) (hbl : b < s.heap.size) (hbA : ¬ A b) (hcs : cells + 0 ≤ room_1.cells ∧ slots + 0 ≤ room_1.slots) (hL : L ≤ 3072) (i0 : 0 ≤ i) (i1 : i + 6 ≤ (L : Int)) (hB0 : 0 ≤ B) (hB1 : B ≤ 379000000) (invC : INVC oC B) (invM : INVM oM) (hR : REL oC oM) (hP : va_P g.1 classes (wC g adC oC ++ wM g adM oM) H) (hD : va_D A (wC g adC oC ++ wM g adM oM)) (hS : va_S A s.heap H locs) (hl : lv_has ls 4 [(3, iv i), (2, .ref (adM 0)), (1, .ref (adC 0)), (0, .ref b)])
    (kend : ∀ (oC oM : OO) (H : Heap) (locs : List Loc) (ls : Array Slot), INVC oC (B + 740000) → INVM oM → REL oC oM → va_P g.1 classes (wC g adC oC ++ wM g adM oM) H → va_D A (wC g adC oC ++ wM g adM oM) → va_S A s.heap H locs → lv_has ls 4 [(3, iv i), (2, .ref (adM 0)), (1, .ref (adC 0)), (0, .ref b)] → W p l e room_1 s m #[Value.ref b] below meth c H locs cells slots Q (F0 m 1952 ls [])) : W p l e room_1 s m #[Value.ref b] below meth c H locs cells slots Q (F0 m 901 ls []) := by
  have hx := X.1
  have hb := X.2.1
  have sr1 := scr_R scr i 1
  have sr2 := scr_R scr i 2
  have sr3 := scr_R scr i 3
  have sr4 := scr_R scr i 4
  have sr5 := scr_R scr i 5
  have iC0 := invC
  have iM0 := invM
  refine lv_aload_n hx hb gdL_law_901 rfl (lv_at hl 2 rfl) ?_
  refine lv_aload_n hx hb gdL_law_902 rfl (lv_at hl 3 rfl) ?_
  refine lv_iload_n hx hb gdL_law_903 rfl (lv_at hl 0 rfl) ?_
  refine lv_iconst (v := Int32.ofInt 1) hx hb gdL_law_904 rfl ?_
  refine lv_iadd hx hb gdL_law_905 (lv_topk (oi_add i 1) ?_)
  refine va_sld hx hb hX hbl hbA hS (vin (by omega) (by omega) hL) gdL_law_906 ?_
  refine lv_topk (scr_i scr i 1) ?_
  refine lv_aload_n hx hb gdL_law_907 rfl (lv_at hl 3 rfl) ?_
  refine lv_iload_n hx hb gdL_law_908 rfl (lv_at hl 0 rfl) ?_
  refine lv_iconst (v := Int32.ofInt 2) hx hb gdL_law_909 rfl ?_
  refine lv_iadd hx hb gdL_law_910 (lv_topk (oi_add i 2) ?_)
  refine va_sld hx hb hX hbl hbA hS (vin (by omega) (by omega) hL) gdL_law_911 ?_
  refine lv_topk (scr_i scr i 2) ?_
  refine lv_aload_n hx hb gdL_law_912 rfl (lv_at hl 3 rfl) ?_
  refine lv_iload_n hx hb gdL_law_913 rfl (lv_at hl 0 rfl) ?_
  refine lv_iconst (v := Int32.ofInt 3) hx hb gdL_law_914 rfl ?_
  refine lv_iadd hx hb gdL_law_915 (lv_topk (oi_add i 3) ?_)
  refine va_sld hx hb hX hbl hbA hS (vin (by omega) (by omega) hL) gdL_law_916 ?_
  refine lv_topk (scr_i scr i 3) ?_
  obtain ⟨v0, hv0, hq0⟩ := t_X11_force oC (scr_ scr i 1) (scr_ scr i 2) (scr_ scr i 3) invC.1 (by omega) (by omega) (by omega)
  refine kCi (oC := oC) (oM := oM) X (c_X11_force l g adC oC (scr_ scr i 1) (scr_ scr i 2) (scr_ scr i 3) v0 hv0) rfl okm_X11_force okw_X11_force w_764 rfl hK hP hD hS hA hZ hl.1 rfl (Nat.le_of_ble_eq_true rfl) ⟨(Nat.le_of_ble_eq_true rfl), (Nat.le_of_ble_eq_true rfl)⟩ gdL_law_917 hcs (fun H locs hP hD hS => ?_)
  replace invC : INVC oC (B + 740000) := invC.up
  refine lv_pop hx hb gdL_law_920 rfl ?_
  refine lv_aload_n hx hb gdL_law_921 rfl (lv_at hl 1 rfl) ?_
  refine lv_aload_n hx hb gdL_law_922 rfl (lv_at hl 3 rfl) ?_
  refine lv_iload_n hx hb gdL_law_923 rfl (lv_at hl 0 rfl) ?_
  refine lv_iconst (v := Int32.ofInt 1) hx hb gdL_law_924 rfl ?_
  refine lv_iadd hx hb gdL_law_925 (lv_topk (oi_add i 1) ?_)
  refine va_sld hx hb hX hbl hbA hS (vin (by omega) (by omega) hL) gdL_law_926 ?_
  refine lv_topk (scr_i scr i 1) ?_
  refine lv_aload_n hx hb gdL_law_927 rfl (lv_at hl 3 rfl) ?_
  refine lv_iload_n hx hb gdL_law_928 rfl (lv_at hl 0 rfl) ?_
  refine lv_iconst (v := Int32.ofInt 2) hx hb gdL_law_929 rfl ?_
  refine lv_iadd hx hb gdL_law_930 (lv_topk (oi_add i 2) ?_)
  refine va_sld hx hb hX hbl hbA hS (vin (by omega) (by omega) hL) gdL_law_931 ?_
  refine lv_topk (scr_i scr i 2) ?_
  refine lv_aload_n hx hb gdL_law_932 rfl (lv_at hl 3 rfl) ?_
  refine lv_iload_n hx hb gdL_law_933 rfl (lv_at hl 0 rfl) ?_
  refine lv_iconst (v := Int32.ofInt 3) hx hb gdL_law_934 rfl ?_
  refine lv_iadd hx hb gdL_law_935 (lv_topk (oi_add i 3) ?_)
  refine va_sld hx hb hX hbl hbA hS (vin (by omega) (by omega) hL) gdL_law_936 ?_
  refine lv_topk (scr_i scr i 3) ?_
  obtain ⟨v1, hv1, hq1⟩ := t_X12_force oM (scr_ scr i 1) (scr_ scr i 2) (scr_ scr i 3) invM.1 (by omega) (by omega) (by omega)
  refine kMi (oC := oC) (oM := oM) X (c_X12_force l g adM oM (scr_ scr i 1) (scr_ scr i 2) (scr_ scr i 3) v1 hv1) rfl okm_X12_force okw_X12_force w_1765 rfl hK hP hD hS hA hZ hl.1 rfl (Nat.le_of_ble_eq_true rfl) ⟨(Nat.le_of_ble_eq_true rfl), (Nat.le_of_ble_eq_true rfl)⟩ gdL_law_937 hcs (fun H locs hP hD hS => ?_)
  have hsp : v0 = v1 := RU.force hR.2.2.2.1 (BM10 iM0.1).1 (ra_force_C (BC31 iC0.1) (BC28 iC0.1) (scr_ scr i 1) (scr_ scr i 2) (scr_ scr i 3) _ hv0) (ra_force_M (BM10 iM0.1).1 (scr_ scr i 1) (scr_ scr i 2) (scr_ scr i 3) _ hv1)
  refine lv_pop hx hb gdL_law_940 rfl ?_
  refine lv_goto (tgt := 1952) hx hb gdL_law_941 (by decide) ?_
  have hR9 : REL oC oM := ⟨hR.1.fr (Fr.rf (L := [])) (Fr.rf (L := [])) (fun _ => rfl) (fun _ => rfl) (fun _ => rfl) (fun _ => rfl), hR.2.1.fr (Fr.rf (L := [])) (Fr.rf (L := [])) (fun _ => rfl) (fun _ => rfl) (fun _ => rfl) (fun _ => rfl), day_fr hR.2.2.1 (Fr.rf (L := [])) (Fr.rf (L := [])) rfl rfl, hR.2.2.2.1.fr (Fr.rf (L := [])) (Fr.rf (L := [])) rfl rfl (fun _ => rfl) (fun _ => rfl) (fun _ => rfl) (fun _ => rfl) (fun _ => rfl) (fun _ => rfl), hR.2.2.2.2.fr (Fr.rf (L := [])) (Fr.rf (L := [])) rfl rfl (fun _ => rfl) (fun _ => rfl)⟩
  exact kend oC oM _ _ _ invC invM hR9 hP hD hS hl
set_option maxHeartbeats 4000000 in
set_option maxRecDepth 100000 in
theorem law_18 (l : Launch) (g : GG) {p : Program} {e : Env} {s : State} {m : MethodId} {below : List Frame} {meth : Method} {c : Code} {b L : Nat} {scr : Nat → Int32} {A : Nat → Prop} {Q : State → Prop} {cells slots : Nat} {H : Heap} {locs : List Loc} {ls : Array Slot} {adC adM : Nat → Nat} {oC oM : OO} {B i : Int} (X : En p s m #[Value.ref b] meth c cL_law 4 ret R_law meth.name) (hK : va_K g.1 classes (tyG g) s) (hA : ∀ q, s.heap.size ≤ q → A q) (hZ : stS g A s s.heap) (hX : va_X b L scr s s.heap) (hbl : b < s.heap.size) (hbA : ¬ A b) (hcs : cells + 0 ≤ room_1.cells ∧ slots + 0 ≤ room_1.slots) (hL : L ≤ 3072) (i0 : 0 ≤ i) (i1 : i + 6 ≤ (L : Int)) (hB0 : 0 ≤ B) (hB1 : B ≤ 379000000) (invC : INVC oC B) (invM : INVM oM) (hR : REL oC oM) (hP : va_P g.1 classes (wC g adC oC ++ wM g adM oM) H) (hD : va_D A (wC g adC oC ++ wM g adM oM)) (hS : va_S A s.heap H locs) (hl : lv_has ls 4 [(3, iv i), (2, .ref (adM 0)), (1, .ref (adC 0)), (0, .ref b)])
    (kend : ∀ (oC oM : OO) (H : Heap) (locs : List Loc) (ls : Array Slot), INVC oC (B + 740000) → INVM oM → REL oC oM → va_P g.1 classes (wC g adC oC ++ wM g adM oM) H → va_D A (wC g adC oC ++ wM g adM oM) → va_S A s.heap H locs → lv_has ls 4 [(3, iv i), (2, .ref (adM 0)), (1, .ref (adC 0)), (0, .ref b)] → W p l e room_1 s m #[Value.ref b] below meth c H locs cells slots Q (F0 m 1952 ls [])) : W p l e room_1 s m #[Value.ref b] below meth c H locs cells slots Q (F0 m 944 ls []) := by
  have hx := X.1
  have hb := X.2.1
  have sr1 := scr_R scr i 1
  have sr2 := scr_R scr i 2
  have sr3 := scr_R scr i 3
  have sr4 := scr_R scr i 4
  have sr5 := scr_R scr i 5
  have iC0 := invC
  have iM0 := invM
  refine lv_aload_n hx hb gdL_law_944 rfl (lv_at hl 2 rfl) ?_
  refine lv_aload_n hx hb gdL_law_945 rfl (lv_at hl 3 rfl) ?_
  refine lv_iload_n hx hb gdL_law_946 rfl (lv_at hl 0 rfl) ?_
  refine lv_iconst (v := Int32.ofInt 1) hx hb gdL_law_947 rfl ?_
  refine lv_iadd hx hb gdL_law_948 (lv_topk (oi_add i 1) ?_)
  refine va_sld hx hb hX hbl hbA hS (vin (by omega) (by omega) hL) gdL_law_949 ?_
  refine lv_topk (scr_i scr i 1) ?_
  refine lv_aload_n hx hb gdL_law_950 rfl (lv_at hl 3 rfl) ?_
  refine lv_iload_n hx hb gdL_law_951 rfl (lv_at hl 0 rfl) ?_
  refine lv_iconst (v := Int32.ofInt 2) hx hb gdL_law_952 rfl ?_
  refine lv_iadd hx hb gdL_law_953 (lv_topk (oi_add i 2) ?_)
  refine va_sld hx hb hX hbl hbA hS (vin (by omega) (by omega) hL) gdL_law_954 ?_
  refine lv_topk (scr_i scr i 2) ?_
  refine lv_aload_n hx hb gdL_law_955 rfl (lv_at hl 3 rfl) ?_
  refine lv_iload_n hx hb gdL_law_956 rfl (lv_at hl 0 rfl) ?_
  refine lv_iconst (v := Int32.ofInt 3) hx hb gdL_law_957 rfl ?_
  refine lv_iadd hx hb gdL_law_958 (lv_topk (oi_add i 3) ?_)
  refine va_sld hx hb hX hbl hbA hS (vin (by omega) (by omega) hL) gdL_law_959 ?_
  refine lv_topk (scr_i scr i 3) ?_
  obtain ⟨v0, hv0, hq0⟩ := t_X11_why oC (scr_ scr i 1) (scr_ scr i 2) (scr_ scr i 3) invC.1 (by omega) (by omega) (by omega)
  refine kCi (oC := oC) (oM := oM) X (c_X11_why l g adC oC (scr_ scr i 1) (scr_ scr i 2) (scr_ scr i 3) v0 hv0) rfl okm_X11_why okw_X11_why w_781 rfl hK hP hD hS hA hZ hl.1 rfl (Nat.le_of_ble_eq_true rfl) ⟨(Nat.le_of_ble_eq_true rfl), (Nat.le_of_ble_eq_true rfl)⟩ gdL_law_960 hcs (fun H locs hP hD hS => ?_)
  replace invC : INVC oC (B + 740000) := invC.up
  refine lv_pop hx hb gdL_law_963 rfl ?_
  refine lv_aload_n hx hb gdL_law_964 rfl (lv_at hl 1 rfl) ?_
  refine lv_aload_n hx hb gdL_law_965 rfl (lv_at hl 3 rfl) ?_
  refine lv_iload_n hx hb gdL_law_966 rfl (lv_at hl 0 rfl) ?_
  refine lv_iconst (v := Int32.ofInt 1) hx hb gdL_law_967 rfl ?_
  refine lv_iadd hx hb gdL_law_968 (lv_topk (oi_add i 1) ?_)
  refine va_sld hx hb hX hbl hbA hS (vin (by omega) (by omega) hL) gdL_law_969 ?_
  refine lv_topk (scr_i scr i 1) ?_
  refine lv_aload_n hx hb gdL_law_970 rfl (lv_at hl 3 rfl) ?_
  refine lv_iload_n hx hb gdL_law_971 rfl (lv_at hl 0 rfl) ?_
  refine lv_iconst (v := Int32.ofInt 2) hx hb gdL_law_972 rfl ?_
  refine lv_iadd hx hb gdL_law_973 (lv_topk (oi_add i 2) ?_)
  refine va_sld hx hb hX hbl hbA hS (vin (by omega) (by omega) hL) gdL_law_974 ?_
  refine lv_topk (scr_i scr i 2) ?_
  refine lv_aload_n hx hb gdL_law_975 rfl (lv_at hl 3 rfl) ?_
  refine lv_iload_n hx hb gdL_law_976 rfl (lv_at hl 0 rfl) ?_
  refine lv_iconst (v := Int32.ofInt 3) hx hb gdL_law_977 rfl ?_
  refine lv_iadd hx hb gdL_law_978 (lv_topk (oi_add i 3) ?_)
  refine va_sld hx hb hX hbl hbA hS (vin (by omega) (by omega) hL) gdL_law_979 ?_
  refine lv_topk (scr_i scr i 3) ?_
  obtain ⟨v1, hv1, hq1⟩ := t_X12_why oM (scr_ scr i 1) (scr_ scr i 2) (scr_ scr i 3) invM.1 (by omega) (by omega) (by omega)
  refine kMi (oC := oC) (oM := oM) X (c_X12_why l g adM oM (scr_ scr i 1) (scr_ scr i 2) (scr_ scr i 3) v1 hv1) rfl okm_X12_why okw_X12_why w_1780 rfl hK hP hD hS hA hZ hl.1 rfl (Nat.le_of_ble_eq_true rfl) ⟨(Nat.le_of_ble_eq_true rfl), (Nat.le_of_ble_eq_true rfl)⟩ gdL_law_980 hcs (fun H locs hP hD hS => ?_)
  have hsp : v0 = v1 := RU.why hR.2.2.2.1 (BM10 iM0.1).1 (ra_why_C (BC31 iC0.1) (BC28 iC0.1) (scr_ scr i 1) (scr_ scr i 2) (scr_ scr i 3) _ hv0) (ra_why_M (BM10 iM0.1).1 (scr_ scr i 1) (scr_ scr i 2) (scr_ scr i 3) _ hv1)
  refine lv_pop hx hb gdL_law_983 rfl ?_
  refine lv_goto (tgt := 1952) hx hb gdL_law_984 (by decide) ?_
  have hR9 : REL oC oM := ⟨hR.1.fr (Fr.rf (L := [])) (Fr.rf (L := [])) (fun _ => rfl) (fun _ => rfl) (fun _ => rfl) (fun _ => rfl), hR.2.1.fr (Fr.rf (L := [])) (Fr.rf (L := [])) (fun _ => rfl) (fun _ => rfl) (fun _ => rfl) (fun _ => rfl), day_fr hR.2.2.1 (Fr.rf (L := [])) (Fr.rf (L := [])) rfl rfl, hR.2.2.2.1.fr (Fr.rf (L := [])) (Fr.rf (L := [])) rfl rfl (fun _ => rfl) (fun _ => rfl) (fun _ => rfl) (fun _ => rfl) (fun _ => rfl) (fun _ => rfl), hR.2.2.2.2.fr (Fr.rf (L := [])) (Fr.rf (L := [])) rfl rfl (fun _ => rfl) (fun _ => rfl)⟩
  exact kend oC oM _ _ _ invC invM hR9 hP hD hS hl
set_option maxHeartbeats 4000000 in
set_option maxRecDepth 100000 in
theorem law_19 (l : Launch) (g : GG) {p : Program} {e : Env} {s : State} {m : MethodId} {below : List Frame} {meth : Method} {c : Code} {b L : Nat} {scr : Nat → Int32} {A : Nat → Prop} {Q : State → Prop} {cells slots : Nat} {H : Heap} {locs : List Loc} {ls : Array Slot} {adC adM : Nat → Nat} {oC oM : OO} {B i : Int} (X : En p s m #[Value.ref b] meth c cL_law 4 ret R_law meth.name) (hK : va_K g.1 classes (tyG g) s) (hA : ∀ q, s.heap.size ≤ q → A q) (hZ : stS g A s s.heap) (hX : va_X b L scr s s.heap) (hbl : b < s.heap.size) (hbA : ¬ A b) (hcs : cells + 0 ≤ room_1.cells ∧ slots + 0 ≤ room_1.slots) (hL : L ≤ 3072) (i0 : 0 ≤ i) (i1 : i + 6 ≤ (L : Int)) (hB0 : 0 ≤ B) (hB1 : B ≤ 379000000) (invC : INVC oC B) (invM : INVM oM) (hR : REL oC oM) (hP : va_P g.1 classes (wC g adC oC ++ wM g adM oM) H) (hD : va_D A (wC g adC oC ++ wM g adM oM)) (hS : va_S A s.heap H locs) (hl : lv_has ls 4 [(3, iv i), (2, .ref (adM 0)), (1, .ref (adC 0)), (0, .ref b)])
    (kend : ∀ (oC oM : OO) (H : Heap) (locs : List Loc) (ls : Array Slot), INVC oC (B + 740000) → INVM oM → REL oC oM → va_P g.1 classes (wC g adC oC ++ wM g adM oM) H → va_D A (wC g adC oC ++ wM g adM oM) → va_S A s.heap H locs → lv_has ls 4 [(3, iv i), (2, .ref (adM 0)), (1, .ref (adC 0)), (0, .ref b)] → W p l e room_1 s m #[Value.ref b] below meth c H locs cells slots Q (F0 m 1952 ls [])) : W p l e room_1 s m #[Value.ref b] below meth c H locs cells slots Q (F0 m 987 ls []) := by
  have hx := X.1
  have hb := X.2.1
  have sr1 := scr_R scr i 1
  have sr2 := scr_R scr i 2
  have sr3 := scr_R scr i 3
  have sr4 := scr_R scr i 4
  have sr5 := scr_R scr i 5
  have iC0 := invC
  have iM0 := invM
  refine lv_aload_n hx hb gdL_law_987 rfl (lv_at hl 2 rfl) ?_
  refine lv_aload_n hx hb gdL_law_988 rfl (lv_at hl 3 rfl) ?_
  refine lv_iload_n hx hb gdL_law_989 rfl (lv_at hl 0 rfl) ?_
  refine lv_iconst (v := Int32.ofInt 1) hx hb gdL_law_990 rfl ?_
  refine lv_iadd hx hb gdL_law_991 (lv_topk (oi_add i 1) ?_)
  refine va_sld hx hb hX hbl hbA hS (vin (by omega) (by omega) hL) gdL_law_992 ?_
  refine lv_topk (scr_i scr i 1) ?_
  refine lv_aload_n hx hb gdL_law_993 rfl (lv_at hl 3 rfl) ?_
  refine lv_iload_n hx hb gdL_law_994 rfl (lv_at hl 0 rfl) ?_
  refine lv_iconst (v := Int32.ofInt 2) hx hb gdL_law_995 rfl ?_
  refine lv_iadd hx hb gdL_law_996 (lv_topk (oi_add i 2) ?_)
  refine va_sld hx hb hX hbl hbA hS (vin (by omega) (by omega) hL) gdL_law_997 ?_
  refine lv_topk (scr_i scr i 2) ?_
  refine lv_aload_n hx hb gdL_law_998 rfl (lv_at hl 3 rfl) ?_
  refine lv_iload_n hx hb gdL_law_999 rfl (lv_at hl 0 rfl) ?_
  refine lv_iconst (v := Int32.ofInt 3) hx hb gdL_law_1000 rfl ?_
  refine lv_iadd hx hb gdL_law_1001 (lv_topk (oi_add i 3) ?_)
  refine va_sld hx hb hX hbl hbA hS (vin (by omega) (by omega) hL) gdL_law_1002 ?_
  refine lv_topk (scr_i scr i 3) ?_
  obtain ⟨v0, hv0, hq0⟩ := t_X11_line oC (scr_ scr i 1) (scr_ scr i 2) (scr_ scr i 3) invC.1 (by omega) (by omega) (by omega)
  refine kCi (oC := oC) (oM := oM) X (c_X11_line l g adC oC (scr_ scr i 1) (scr_ scr i 2) (scr_ scr i 3) v0 hv0) rfl okm_X11_line okw_X11_line w_786 rfl hK hP hD hS hA hZ hl.1 rfl (Nat.le_of_ble_eq_true rfl) ⟨(Nat.le_of_ble_eq_true rfl), (Nat.le_of_ble_eq_true rfl)⟩ gdL_law_1003 hcs (fun H locs hP hD hS => ?_)
  replace hq0 : BoxC v0.2 ∧ (Fr [(0, 17), (32, 13), (33, 9999), (34, 9999), (35, 9999), (36, 9999), (37, 9999), (38, 9999), (39, 9999), (40, 9999), (53, 2), (53, 3), (53, 7), (53, 8), (53, 9), (53, 10), (54, 9999), (55, 9999), (56, 9999), (57, 9999), (58, 9999), (77, 9999)] oC v0.2) := hq0
  replace invC : INVC v0.2 (B + 740000) := invC.fr hB0 hq0.1 hq0.2 rfl rfl (fun _ => rfl) (fun _ => rfl) (fun _ => rfl) (fun _ => rfl) (fun _ => rfl) (fun _ => rfl)
  refine lv_pop hx hb gdL_law_1006 rfl ?_
  refine lv_aload_n hx hb gdL_law_1007 rfl (lv_at hl 1 rfl) ?_
  refine lv_aload_n hx hb gdL_law_1008 rfl (lv_at hl 3 rfl) ?_
  refine lv_iload_n hx hb gdL_law_1009 rfl (lv_at hl 0 rfl) ?_
  refine lv_iconst (v := Int32.ofInt 1) hx hb gdL_law_1010 rfl ?_
  refine lv_iadd hx hb gdL_law_1011 (lv_topk (oi_add i 1) ?_)
  refine va_sld hx hb hX hbl hbA hS (vin (by omega) (by omega) hL) gdL_law_1012 ?_
  refine lv_topk (scr_i scr i 1) ?_
  refine lv_aload_n hx hb gdL_law_1013 rfl (lv_at hl 3 rfl) ?_
  refine lv_iload_n hx hb gdL_law_1014 rfl (lv_at hl 0 rfl) ?_
  refine lv_iconst (v := Int32.ofInt 2) hx hb gdL_law_1015 rfl ?_
  refine lv_iadd hx hb gdL_law_1016 (lv_topk (oi_add i 2) ?_)
  refine va_sld hx hb hX hbl hbA hS (vin (by omega) (by omega) hL) gdL_law_1017 ?_
  refine lv_topk (scr_i scr i 2) ?_
  refine lv_aload_n hx hb gdL_law_1018 rfl (lv_at hl 3 rfl) ?_
  refine lv_iload_n hx hb gdL_law_1019 rfl (lv_at hl 0 rfl) ?_
  refine lv_iconst (v := Int32.ofInt 3) hx hb gdL_law_1020 rfl ?_
  refine lv_iadd hx hb gdL_law_1021 (lv_topk (oi_add i 3) ?_)
  refine va_sld hx hb hX hbl hbA hS (vin (by omega) (by omega) hL) gdL_law_1022 ?_
  refine lv_topk (scr_i scr i 3) ?_
  obtain ⟨v1, hv1, hq1⟩ := t_X12_line oM (scr_ scr i 1) (scr_ scr i 2) (scr_ scr i 3) invM.1 (by omega) (by omega) (by omega)
  refine kMi (oC := v0.2) (oM := oM) X (c_X12_line l g adM oM (scr_ scr i 1) (scr_ scr i 2) (scr_ scr i 3) v1 hv1) rfl okm_X12_line okw_X12_line w_1863 rfl hK hP hD hS hA hZ hl.1 rfl (Nat.le_of_ble_eq_true rfl) ⟨(Nat.le_of_ble_eq_true rfl), (Nat.le_of_ble_eq_true rfl)⟩ gdL_law_1023 hcs (fun H locs hP hD hS => ?_)
  replace hq1 : BoxM v1.2 ∧ (Fr [(0, 0), (0, 32), (1, 9999), (25, 9999), (26, 9999), (27, 9999), (28, 9999), (29, 9999), (30, 9999), (31, 9999), (38, 9999), (39, 9999)] oM v1.2) := hq1
  replace invM : INVM v1.2 := invM.fr hq1.1 hq1.2 rfl rfl (fun _ => rfl)
  refine lv_pop hx hb gdL_law_1026 rfl ?_
  refine lv_goto (tgt := 1952) hx hb gdL_law_1027 (by decide) ?_
  have hR9 : REL v0.2 v1.2 := ⟨hR.1.fr hq0.2 hq1.2 (fun _ => rfl) (fun _ => rfl) (fun _ => rfl) (fun _ => rfl), hR.2.1.fr hq0.2 hq1.2 (fun _ => rfl) (fun _ => rfl) (fun _ => rfl) (fun _ => rfl), day_fr hR.2.2.1 hq0.2 hq1.2 rfl rfl, hR.2.2.2.1.fr hq0.2 hq1.2 rfl rfl (fun _ => rfl) (fun _ => rfl) (fun _ => rfl) (fun _ => rfl) (fun _ => rfl) (fun _ => rfl), hR.2.2.2.2.fr hq0.2 hq1.2 rfl rfl (fun _ => rfl) (fun _ => rfl)⟩
  exact kend v0.2 v1.2 _ _ _ invC invM hR9 hP hD hS hl
set_option maxHeartbeats 4000000 in
set_option maxRecDepth 100000 in
theorem law_20 (l : Launch) (g : GG) {p : Program} {e : Env} {s : State} {m : MethodId} {below : List Frame} {meth : Method} {c : Code} {b L : Nat} {scr : Nat → Int32} {A : Nat → Prop} {Q : State → Prop} {cells slots : Nat} {H : Heap} {locs : List Loc} {ls : Array Slot} {adC adM : Nat → Nat} {oC oM : OO} {B i : Int} (X : En p s m #[Value.ref b] meth c cL_law 4 ret R_law meth.name) (hK : va_K g.1 classes (tyG g) s) (hA : ∀ q, s.heap.size ≤ q → A q) (hZ : stS g A s s.heap) (hX : va_X b L scr s s.heap) (hbl : b < s.heap.size) (hbA : ¬ A b) (hcs : cells + 0 ≤ room_1.cells ∧ slots + 0 ≤ room_1.slots) (hL : L ≤ 3072) (i0 : 0 ≤ i) (i1 : i + 6 ≤ (L : Int)) (hB0 : 0 ≤ B) (hB1 : B ≤ 379000000) (invC : INVC oC B) (invM : INVM oM) (hR : REL oC oM) (hP : va_P g.1 classes (wC g adC oC ++ wM g adM oM) H) (hD : va_D A (wC g adC oC ++ wM g adM oM)) (hS : va_S A s.heap H locs) (hl : lv_has ls 4 [(3, iv i), (2, .ref (adM 0)), (1, .ref (adC 0)), (0, .ref b)])
    (kend : ∀ (oC oM : OO) (H : Heap) (locs : List Loc) (ls : Array Slot), INVC oC (B + 740000) → INVM oM → REL oC oM → va_P g.1 classes (wC g adC oC ++ wM g adM oM) H → va_D A (wC g adC oC ++ wM g adM oM) → va_S A s.heap H locs → lv_has ls 4 [(3, iv i), (2, .ref (adM 0)), (1, .ref (adC 0)), (0, .ref b)] → W p l e room_1 s m #[Value.ref b] below meth c H locs cells slots Q (F0 m 1952 ls [])) : W p l e room_1 s m #[Value.ref b] below meth c H locs cells slots Q (F0 m 1030 ls []) := by
  have hx := X.1
  have hb := X.2.1
  have sr1 := scr_R scr i 1
  have sr2 := scr_R scr i 2
  have sr3 := scr_R scr i 3
  have sr4 := scr_R scr i 4
  have sr5 := scr_R scr i 5
  have iC0 := invC
  have iM0 := invM
  refine lv_aload_n hx hb gdL_law_1030 rfl (lv_at hl 2 rfl) ?_
  refine lv_aload_n hx hb gdL_law_1031 rfl (lv_at hl 3 rfl) ?_
  refine lv_iload_n hx hb gdL_law_1032 rfl (lv_at hl 0 rfl) ?_
  refine lv_iconst (v := Int32.ofInt 1) hx hb gdL_law_1033 rfl ?_
  refine lv_iadd hx hb gdL_law_1034 (lv_topk (oi_add i 1) ?_)
  refine va_sld hx hb hX hbl hbA hS (vin (by omega) (by omega) hL) gdL_law_1035 ?_
  refine lv_topk (scr_i scr i 1) ?_
  refine lv_aload_n hx hb gdL_law_1036 rfl (lv_at hl 3 rfl) ?_
  refine lv_iload_n hx hb gdL_law_1037 rfl (lv_at hl 0 rfl) ?_
  refine lv_iconst (v := Int32.ofInt 2) hx hb gdL_law_1038 rfl ?_
  refine lv_iadd hx hb gdL_law_1039 (lv_topk (oi_add i 2) ?_)
  refine va_sld hx hb hX hbl hbA hS (vin (by omega) (by omega) hL) gdL_law_1040 ?_
  refine lv_topk (scr_i scr i 2) ?_
  obtain ⟨v0, hv0, hq0⟩ := t_X11_ramp oC (scr_ scr i 1) (scr_ scr i 2) invC.1 (by omega) (by omega)
  refine kCi (oC := oC) (oM := oM) X (c_X11_ramp l g adC oC (scr_ scr i 1) (scr_ scr i 2) v0 hv0) rfl okm_X11_ramp okw_X11_ramp w_878 rfl hK hP hD hS hA hZ hl.1 rfl (Nat.le_of_ble_eq_true rfl) ⟨(Nat.le_of_ble_eq_true rfl), (Nat.le_of_ble_eq_true rfl)⟩ gdL_law_1041 hcs (fun H locs hP hD hS => ?_)
  replace hq0 : BoxC v0.2 ∧ (Fr [(0, 17), (32, 13), (33, 9999), (34, 9999), (35, 9999), (36, 9999), (37, 9999), (38, 9999), (40, 9999), (77, 9999)] oC v0.2) := hq0
  replace invC : INVC v0.2 (B + 740000) := invC.fr hB0 hq0.1 hq0.2 rfl rfl (fun _ => rfl) (fun _ => rfl) (fun _ => rfl) (fun _ => rfl) (fun _ => rfl) (fun _ => rfl)
  refine lv_pop hx hb gdL_law_1044 rfl ?_
  refine lv_aload_n hx hb gdL_law_1045 rfl (lv_at hl 1 rfl) ?_
  refine lv_aload_n hx hb gdL_law_1046 rfl (lv_at hl 3 rfl) ?_
  refine lv_iload_n hx hb gdL_law_1047 rfl (lv_at hl 0 rfl) ?_
  refine lv_iconst (v := Int32.ofInt 1) hx hb gdL_law_1048 rfl ?_
  refine lv_iadd hx hb gdL_law_1049 (lv_topk (oi_add i 1) ?_)
  refine va_sld hx hb hX hbl hbA hS (vin (by omega) (by omega) hL) gdL_law_1050 ?_
  refine lv_topk (scr_i scr i 1) ?_
  refine lv_aload_n hx hb gdL_law_1051 rfl (lv_at hl 3 rfl) ?_
  refine lv_iload_n hx hb gdL_law_1052 rfl (lv_at hl 0 rfl) ?_
  refine lv_iconst (v := Int32.ofInt 2) hx hb gdL_law_1053 rfl ?_
  refine lv_iadd hx hb gdL_law_1054 (lv_topk (oi_add i 2) ?_)
  refine va_sld hx hb hX hbl hbA hS (vin (by omega) (by omega) hL) gdL_law_1055 ?_
  refine lv_topk (scr_i scr i 2) ?_
  obtain ⟨v1, hv1, hq1⟩ := t_X12_ramp oM (scr_ scr i 1) (scr_ scr i 2) invM.1 (by omega) (by omega)
  refine kMi (oC := v0.2) (oM := oM) X (c_X12_ramp l g adM oM (scr_ scr i 1) (scr_ scr i 2) v1 hv1) rfl okm_X12_ramp okw_X12_ramp w_1899 rfl hK hP hD hS hA hZ hl.1 rfl (Nat.le_of_ble_eq_true rfl) ⟨(Nat.le_of_ble_eq_true rfl), (Nat.le_of_ble_eq_true rfl)⟩ gdL_law_1056 hcs (fun H locs hP hD hS => ?_)
  replace hq1 : BoxM v1.2 ∧ (Fr [(0, 0), (0, 32), (1, 9999), (25, 9999), (26, 9999), (27, 9999), (28, 9999), (29, 9999), (30, 9999), (31, 9999)] oM v1.2) := hq1
  replace invM : INVM v1.2 := invM.fr hq1.1 hq1.2 rfl rfl (fun _ => rfl)
  refine lv_pop hx hb gdL_law_1059 rfl ?_
  refine lv_goto (tgt := 1952) hx hb gdL_law_1060 (by decide) ?_
  have hR9 : REL v0.2 v1.2 := ⟨hR.1.fr hq0.2 hq1.2 (fun _ => rfl) (fun _ => rfl) (fun _ => rfl) (fun _ => rfl), hR.2.1.fr hq0.2 hq1.2 (fun _ => rfl) (fun _ => rfl) (fun _ => rfl) (fun _ => rfl), day_fr hR.2.2.1 hq0.2 hq1.2 rfl rfl, hR.2.2.2.1.fr hq0.2 hq1.2 rfl rfl (fun _ => rfl) (fun _ => rfl) (fun _ => rfl) (fun _ => rfl) (fun _ => rfl) (fun _ => rfl), hR.2.2.2.2.fr hq0.2 hq1.2 rfl rfl (fun _ => rfl) (fun _ => rfl)⟩
  exact kend v0.2 v1.2 _ _ _ invC invM hR9 hP hD hS hl
set_option maxHeartbeats 4000000 in
set_option maxRecDepth 100000 in
theorem law_21 (l : Launch) (g : GG) {p : Program} {e : Env} {s : State} {m : MethodId} {below : List Frame} {meth : Method} {c : Code} {b L : Nat} {scr : Nat → Int32} {A : Nat → Prop} {Q : State → Prop} {cells slots : Nat} {H : Heap} {locs : List Loc} {ls : Array Slot} {adC adM : Nat → Nat} {oC oM : OO} {B i : Int} (X : En p s m #[Value.ref b] meth c cL_law 4 ret R_law meth.name) (hK : va_K g.1 classes (tyG g) s) (hA : ∀ q, s.heap.size ≤ q → A q) (hZ : stS g A s s.heap) (hX : va_X b L scr s s.heap) (hbl : b < s.heap.size) (hbA : ¬ A b) (hcs : cells + 0 ≤ room_1.cells ∧ slots + 0 ≤ room_1.slots) (hL : L ≤ 3072) (i0 : 0 ≤ i) (i1 : i + 6 ≤ (L : Int)) (hB0 : 0 ≤ B) (hB1 : B ≤ 379000000) (invC : INVC oC B) (invM : INVM oM) (hR : REL oC oM) (hP : va_P g.1 classes (wC g adC oC ++ wM g adM oM) H) (hD : va_D A (wC g adC oC ++ wM g adM oM)) (hS : va_S A s.heap H locs) (hl : lv_has ls 4 [(3, iv i), (2, .ref (adM 0)), (1, .ref (adC 0)), (0, .ref b)])
    (kend : ∀ (oC oM : OO) (H : Heap) (locs : List Loc) (ls : Array Slot), INVC oC (B + 740000) → INVM oM → REL oC oM → va_P g.1 classes (wC g adC oC ++ wM g adM oM) H → va_D A (wC g adC oC ++ wM g adM oM) → va_S A s.heap H locs → lv_has ls 4 [(3, iv i), (2, .ref (adM 0)), (1, .ref (adC 0)), (0, .ref b)] → W p l e room_1 s m #[Value.ref b] below meth c H locs cells slots Q (F0 m 1952 ls [])) : W p l e room_1 s m #[Value.ref b] below meth c H locs cells slots Q (F0 m 1063 ls []) := by
  have hx := X.1
  have hb := X.2.1
  have sr1 := scr_R scr i 1
  have sr2 := scr_R scr i 2
  have sr3 := scr_R scr i 3
  have sr4 := scr_R scr i 4
  have sr5 := scr_R scr i 5
  have iC0 := invC
  have iM0 := invM
  refine lv_aload_n hx hb gdL_law_1063 rfl (lv_at hl 2 rfl) ?_
  refine lv_aload_n hx hb gdL_law_1064 rfl (lv_at hl 3 rfl) ?_
  refine lv_iload_n hx hb gdL_law_1065 rfl (lv_at hl 0 rfl) ?_
  refine lv_iconst (v := Int32.ofInt 1) hx hb gdL_law_1066 rfl ?_
  refine lv_iadd hx hb gdL_law_1067 (lv_topk (oi_add i 1) ?_)
  refine va_sld hx hb hX hbl hbA hS (vin (by omega) (by omega) hL) gdL_law_1068 ?_
  refine lv_topk (scr_i scr i 1) ?_
  refine lv_aload_n hx hb gdL_law_1069 rfl (lv_at hl 3 rfl) ?_
  refine lv_iload_n hx hb gdL_law_1070 rfl (lv_at hl 0 rfl) ?_
  refine lv_iconst (v := Int32.ofInt 2) hx hb gdL_law_1071 rfl ?_
  refine lv_iadd hx hb gdL_law_1072 (lv_topk (oi_add i 2) ?_)
  refine va_sld hx hb hX hbl hbA hS (vin (by omega) (by omega) hL) gdL_law_1073 ?_
  refine lv_topk (scr_i scr i 2) ?_
  obtain ⟨v0, hv0, hq0⟩ := t_X11_cellOf oC (scr_ scr i 1) (scr_ scr i 2) invC.1 (by omega) (by omega)
  refine kCi (oC := oC) (oM := oM) X (c_X11_cellOf l g adC oC (scr_ scr i 1) (scr_ scr i 2) v0 hv0) rfl okm_X11_cellOf okw_X11_cellOf w_907 rfl hK hP hD hS hA hZ hl.1 rfl (Nat.le_of_ble_eq_true rfl) ⟨(Nat.le_of_ble_eq_true rfl), (Nat.le_of_ble_eq_true rfl)⟩ gdL_law_1074 hcs (fun H locs hP hD hS => ?_)
  replace hq0 : BoxC v0.2 ∧ (Fr [(0, 17), (77, 9999)] oC v0.2) := hq0
  replace invC : INVC v0.2 (B + 740000) := invC.fr hB0 hq0.1 hq0.2 rfl rfl (fun _ => rfl) (fun _ => rfl) (fun _ => rfl) (fun _ => rfl) (fun _ => rfl) (fun _ => rfl)
  refine lv_pop hx hb gdL_law_1077 rfl ?_
  refine lv_aload_n hx hb gdL_law_1078 rfl (lv_at hl 1 rfl) ?_
  refine lv_aload_n hx hb gdL_law_1079 rfl (lv_at hl 3 rfl) ?_
  refine lv_iload_n hx hb gdL_law_1080 rfl (lv_at hl 0 rfl) ?_
  refine lv_iconst (v := Int32.ofInt 1) hx hb gdL_law_1081 rfl ?_
  refine lv_iadd hx hb gdL_law_1082 (lv_topk (oi_add i 1) ?_)
  refine va_sld hx hb hX hbl hbA hS (vin (by omega) (by omega) hL) gdL_law_1083 ?_
  refine lv_topk (scr_i scr i 1) ?_
  refine lv_aload_n hx hb gdL_law_1084 rfl (lv_at hl 3 rfl) ?_
  refine lv_iload_n hx hb gdL_law_1085 rfl (lv_at hl 0 rfl) ?_
  refine lv_iconst (v := Int32.ofInt 2) hx hb gdL_law_1086 rfl ?_
  refine lv_iadd hx hb gdL_law_1087 (lv_topk (oi_add i 2) ?_)
  refine va_sld hx hb hX hbl hbA hS (vin (by omega) (by omega) hL) gdL_law_1088 ?_
  refine lv_topk (scr_i scr i 2) ?_
  obtain ⟨v1, hv1, hq1⟩ := t_X12_cellOf oM (scr_ scr i 1) (scr_ scr i 2) invM.1 (by omega) (by omega)
  refine kMi (oC := v0.2) (oM := oM) X (c_X12_cellOf l g adM oM (scr_ scr i 1) (scr_ scr i 2) v1 hv1) rfl okm_X12_cellOf okw_X12_cellOf w_1921 rfl hK hP hD hS hA hZ hl.1 rfl (Nat.le_of_ble_eq_true rfl) ⟨(Nat.le_of_ble_eq_true rfl), (Nat.le_of_ble_eq_true rfl)⟩ gdL_law_1089 hcs (fun H locs hP hD hS => ?_)
  replace hq1 : BoxM v1.2 ∧ (Fr [(0, 0), (1, 9999)] oM v1.2) := hq1
  replace invM : INVM v1.2 := invM.fr hq1.1 hq1.2 rfl rfl (fun _ => rfl)
  refine lv_pop hx hb gdL_law_1092 rfl ?_
  refine lv_goto (tgt := 1952) hx hb gdL_law_1093 (by decide) ?_
  have hR9 : REL v0.2 v1.2 := ⟨hR.1.fr hq0.2 hq1.2 (fun _ => rfl) (fun _ => rfl) (fun _ => rfl) (fun _ => rfl), hR.2.1.fr hq0.2 hq1.2 (fun _ => rfl) (fun _ => rfl) (fun _ => rfl) (fun _ => rfl), day_fr hR.2.2.1 hq0.2 hq1.2 rfl rfl, hR.2.2.2.1.fr hq0.2 hq1.2 rfl rfl (fun _ => rfl) (fun _ => rfl) (fun _ => rfl) (fun _ => rfl) (fun _ => rfl) (fun _ => rfl), hR.2.2.2.2.fr hq0.2 hq1.2 rfl rfl (fun _ => rfl) (fun _ => rfl)⟩
  exact kend v0.2 v1.2 _ _ _ invC invM hR9 hP hD hS hl
set_option maxHeartbeats 4000000 in
set_option maxRecDepth 100000 in
theorem law_22 (l : Launch) (g : GG) {p : Program} {e : Env} {s : State} {m : MethodId} {below : List Frame} {meth : Method} {c : Code} {b L : Nat} {scr : Nat → Int32} {A : Nat → Prop} {Q : State → Prop} {cells slots : Nat} {H : Heap} {locs : List Loc} {ls : Array Slot} {adC adM : Nat → Nat} {oC oM : OO} {B i : Int} (X : En p s m #[Value.ref b] meth c cL_law 4 ret R_law meth.name) (hK : va_K g.1 classes (tyG g) s) (hA : ∀ q, s.heap.size ≤ q → A q) (hZ : stS g A s s.heap) (hX : va_X b L scr s s.heap) (hbl : b < s.heap.size) (hbA : ¬ A b) (hcs : cells + 0 ≤ room_1.cells ∧ slots + 0 ≤ room_1.slots) (hL : L ≤ 3072) (i0 : 0 ≤ i) (i1 : i + 6 ≤ (L : Int)) (hB0 : 0 ≤ B) (hB1 : B ≤ 379000000) (invC : INVC oC B) (invM : INVM oM) (hR : REL oC oM) (hP : va_P g.1 classes (wC g adC oC ++ wM g adM oM) H) (hD : va_D A (wC g adC oC ++ wM g adM oM)) (hS : va_S A s.heap H locs) (hl : lv_has ls 4 [(3, iv i), (2, .ref (adM 0)), (1, .ref (adC 0)), (0, .ref b)])
    (kend : ∀ (oC oM : OO) (H : Heap) (locs : List Loc) (ls : Array Slot), INVC oC (B + 740000) → INVM oM → REL oC oM → va_P g.1 classes (wC g adC oC ++ wM g adM oM) H → va_D A (wC g adC oC ++ wM g adM oM) → va_S A s.heap H locs → lv_has ls 4 [(3, iv i), (2, .ref (adM 0)), (1, .ref (adC 0)), (0, .ref b)] → W p l e room_1 s m #[Value.ref b] below meth c H locs cells slots Q (F0 m 1952 ls [])) : W p l e room_1 s m #[Value.ref b] below meth c H locs cells slots Q (F0 m 1096 ls []) := by
  have hx := X.1
  have hb := X.2.1
  have sr1 := scr_R scr i 1
  have sr2 := scr_R scr i 2
  have sr3 := scr_R scr i 3
  have sr4 := scr_R scr i 4
  have sr5 := scr_R scr i 5
  have iC0 := invC
  have iM0 := invM
  refine lv_aload_n hx hb gdL_law_1096 rfl (lv_at hl 2 rfl) ?_
  refine lv_aload_n hx hb gdL_law_1097 rfl (lv_at hl 3 rfl) ?_
  refine lv_iload_n hx hb gdL_law_1098 rfl (lv_at hl 0 rfl) ?_
  refine lv_iconst (v := Int32.ofInt 1) hx hb gdL_law_1099 rfl ?_
  refine lv_iadd hx hb gdL_law_1100 (lv_topk (oi_add i 1) ?_)
  refine va_sld hx hb hX hbl hbA hS (vin (by omega) (by omega) hL) gdL_law_1101 ?_
  refine lv_topk (scr_i scr i 1) ?_
  obtain ⟨v0, hv0, hq0⟩ := t_X11_show oC (scr_ scr i 1) invC.1 (by omega) invC.2.2.1
  refine kCi (oC := oC) (oM := oM) X (c_X11_show l g adC oC (scr_ scr i 1) v0 hv0) rfl okm_X11_show okw_X11_show w_915 rfl hK hP hD hS hA hZ hl.1 rfl (Nat.le_of_ble_eq_true rfl) ⟨(Nat.le_of_ble_eq_true rfl), (Nat.le_of_ble_eq_true rfl)⟩ gdL_law_1102 hcs (fun H locs hP hD hS => ?_)
  replace hq0 : BoxC v0.2 ∧ (Fr [(0, 17), (10, 13), (16, 9999), (19, 9999), (20, 9999), (21, 9999), (40, 9999), (77, 9999)] oC v0.2) ∧ (inR v0.1) ∧ (HTC oC → HTC v0.2) := hq0
  replace invC : INVC v0.2 (B + 740000) := ⟨hq0.1, (hq0.2.2.2 invC.2.1), (invC.2.2.1.fr hq0.2.1 rfl (fun _ => rfl) (fun _ => rfl) (fun _ => rfl)), ((LB.cg (fun j => hq0.2.1.1 64 j rfl) (fun j => hq0.2.1.1 61 j rfl) invC.2.2.2).up (by omega))⟩
  refine lv_pop hx hb gdL_law_1105 rfl ?_
  refine lv_aload_n hx hb gdL_law_1106 rfl (lv_at hl 1 rfl) ?_
  refine lv_aload_n hx hb gdL_law_1107 rfl (lv_at hl 3 rfl) ?_
  refine lv_iload_n hx hb gdL_law_1108 rfl (lv_at hl 0 rfl) ?_
  refine lv_iconst (v := Int32.ofInt 1) hx hb gdL_law_1109 rfl ?_
  refine lv_iadd hx hb gdL_law_1110 (lv_topk (oi_add i 1) ?_)
  refine va_sld hx hb hX hbl hbA hS (vin (by omega) (by omega) hL) gdL_law_1111 ?_
  refine lv_topk (scr_i scr i 1) ?_
  obtain ⟨v1, hv1, hq1⟩ := t_X12_show oM (scr_ scr i 1) invM.1 (by omega)
  refine kMi (oC := v0.2) (oM := oM) X (c_X12_show l g adM oM (scr_ scr i 1) v1 hv1) rfl okm_X12_show okw_X12_show w_1929 rfl hK hP hD hS hA hZ hl.1 rfl (Nat.le_of_ble_eq_true rfl) ⟨(Nat.le_of_ble_eq_true rfl), (Nat.le_of_ble_eq_true rfl)⟩ gdL_law_1112 hcs (fun H locs hP hD hS => ?_)
  replace hq1 : BoxM v1.2 ∧ (Fr [(0, 0), (0, 23), (1, 9999), (18, 9999), (19, 9999), (20, 9999), (29, 9999)] oM v1.2) ∧ (inR v1.1) ∧ (HT oM → HT v1.2) := hq1
  replace invM : INVM v1.2 := ⟨hq1.1, hq1.2.2.2 invM.2⟩
  refine lv_pop hx hb gdL_law_1115 rfl ?_
  refine lv_goto (tgt := 1952) hx hb gdL_law_1116 (by decide) ?_
  have hR9 : REL v0.2 v1.2 := ⟨hR.1.fr hq0.2.1 hq1.2.1 (fun _ => rfl) (fun _ => rfl) (fun _ => rfl) (fun _ => rfl), hR.2.1.fr hq0.2.1 hq1.2.1 (fun _ => rfl) (fun _ => rfl) (fun _ => rfl) (fun _ => rfl), day_fr hR.2.2.1 hq0.2.1 hq1.2.1 rfl rfl, hR.2.2.2.1.fr hq0.2.1 hq1.2.1 rfl rfl (fun _ => rfl) (fun _ => rfl) (fun _ => rfl) (fun _ => rfl) (fun _ => rfl) (fun _ => rfl), hR.2.2.2.2.fr hq0.2.1 hq1.2.1 rfl rfl (fun _ => rfl) (fun _ => rfl)⟩
  exact kend v0.2 v1.2 _ _ _ invC invM hR9 hP hD hS hl
set_option maxHeartbeats 4000000 in
set_option maxRecDepth 100000 in
theorem law_23 (l : Launch) (g : GG) {p : Program} {e : Env} {s : State} {m : MethodId} {below : List Frame} {meth : Method} {c : Code} {b L : Nat} {scr : Nat → Int32} {A : Nat → Prop} {Q : State → Prop} {cells slots : Nat} {H : Heap} {locs : List Loc} {ls : Array Slot} {adC adM : Nat → Nat} {oC oM : OO} {B i : Int} (X : En p s m #[Value.ref b] meth c cL_law 4 ret R_law meth.name) (hK : va_K g.1 classes (tyG g) s) (hA : ∀ q, s.heap.size ≤ q → A q) (hZ : stS g A s s.heap) (hX : va_X b L scr s s.heap) (hbl : b < s.heap.size) (hbA : ¬ A b) (hcs : cells + 0 ≤ room_1.cells ∧ slots + 0 ≤ room_1.slots) (hL : L ≤ 3072) (i0 : 0 ≤ i) (i1 : i + 6 ≤ (L : Int)) (hB0 : 0 ≤ B) (hB1 : B ≤ 379000000) (invC : INVC oC B) (invM : INVM oM) (hR : REL oC oM) (hP : va_P g.1 classes (wC g adC oC ++ wM g adM oM) H) (hD : va_D A (wC g adC oC ++ wM g adM oM)) (hS : va_S A s.heap H locs) (hl : lv_has ls 4 [(3, iv i), (2, .ref (adM 0)), (1, .ref (adC 0)), (0, .ref b)])
    (kend : ∀ (oC oM : OO) (H : Heap) (locs : List Loc) (ls : Array Slot), INVC oC (B + 740000) → INVM oM → REL oC oM → va_P g.1 classes (wC g adC oC ++ wM g adM oM) H → va_D A (wC g adC oC ++ wM g adM oM) → va_S A s.heap H locs → lv_has ls 4 [(3, iv i), (2, .ref (adM 0)), (1, .ref (adC 0)), (0, .ref b)] → W p l e room_1 s m #[Value.ref b] below meth c H locs cells slots Q (F0 m 1952 ls [])) : W p l e room_1 s m #[Value.ref b] below meth c H locs cells slots Q (F0 m 1119 ls []) := by
  have hx := X.1
  have hb := X.2.1
  have sr1 := scr_R scr i 1
  have sr2 := scr_R scr i 2
  have sr3 := scr_R scr i 3
  have sr4 := scr_R scr i 4
  have sr5 := scr_R scr i 5
  have iC0 := invC
  have iM0 := invM
  refine lv_aload_n hx hb gdL_law_1119 rfl (lv_at hl 2 rfl) ?_
  refine lv_aload_n hx hb gdL_law_1120 rfl (lv_at hl 3 rfl) ?_
  refine lv_iload_n hx hb gdL_law_1121 rfl (lv_at hl 0 rfl) ?_
  refine lv_iconst (v := Int32.ofInt 1) hx hb gdL_law_1122 rfl ?_
  refine lv_iadd hx hb gdL_law_1123 (lv_topk (oi_add i 1) ?_)
  refine va_sld hx hb hX hbl hbA hS (vin (by omega) (by omega) hL) gdL_law_1124 ?_
  refine lv_topk (scr_i scr i 1) ?_
  refine lv_aload_n hx hb gdL_law_1125 rfl (lv_at hl 3 rfl) ?_
  refine lv_iload_n hx hb gdL_law_1126 rfl (lv_at hl 0 rfl) ?_
  refine lv_iconst (v := Int32.ofInt 2) hx hb gdL_law_1127 rfl ?_
  refine lv_iadd hx hb gdL_law_1128 (lv_topk (oi_add i 2) ?_)
  refine va_sld hx hb hX hbl hbA hS (vin (by omega) (by omega) hL) gdL_law_1129 ?_
  refine lv_topk (scr_i scr i 2) ?_
  obtain ⟨v0, hv0, hq0⟩ := t_X11_take oC (scr_ scr i 1) (scr_ scr i 2) invC.1 (by omega) (by omega) invC.2.1
  refine kCi (oC := oC) (oM := oM) X (c_X11_take l g adC oC (scr_ scr i 1) (scr_ scr i 2) v0 hv0) rfl okm_X11_take okw_X11_take w_955 rfl hK hP hD hS hA hZ hl.1 rfl (Nat.le_of_ble_eq_true rfl) ⟨(Nat.le_of_ble_eq_true rfl), (Nat.le_of_ble_eq_true rfl)⟩ gdL_law_1130 hcs (fun H locs hP hD hS => ?_)
  replace hq0 : BoxC v0.2 ∧ (Fr [(0, 14), (0, 17), (14, 9999), (17, 9999), (18, 9999), (24, 9999), (32, 13), (33, 9999), (34, 9999), (35, 9999), (40, 9999), (41, 9999), (45, 9999), (77, 9999)] oC v0.2) ∧ (inR v0.1) ∧ (OC oC → OC v0.2) := hq0
  replace invC : INVC v0.2 (B + 740000) := ⟨hq0.1, (invC.2.1.fr hq0.2.1 rfl rfl (fun _ => rfl)), (hq0.2.2.2 invC.2.2.1), ((LB.cg (fun j => hq0.2.1.1 64 j rfl) (fun j => hq0.2.1.1 61 j rfl) invC.2.2.2).up (by omega))⟩
  refine lv_pop hx hb gdL_law_1133 rfl ?_
  refine lv_aload_n hx hb gdL_law_1134 rfl (lv_at hl 1 rfl) ?_
  refine lv_aload_n hx hb gdL_law_1135 rfl (lv_at hl 3 rfl) ?_
  refine lv_iload_n hx hb gdL_law_1136 rfl (lv_at hl 0 rfl) ?_
  refine lv_iconst (v := Int32.ofInt 1) hx hb gdL_law_1137 rfl ?_
  refine lv_iadd hx hb gdL_law_1138 (lv_topk (oi_add i 1) ?_)
  refine va_sld hx hb hX hbl hbA hS (vin (by omega) (by omega) hL) gdL_law_1139 ?_
  refine lv_topk (scr_i scr i 1) ?_
  refine lv_aload_n hx hb gdL_law_1140 rfl (lv_at hl 3 rfl) ?_
  refine lv_iload_n hx hb gdL_law_1141 rfl (lv_at hl 0 rfl) ?_
  refine lv_iconst (v := Int32.ofInt 2) hx hb gdL_law_1142 rfl ?_
  refine lv_iadd hx hb gdL_law_1143 (lv_topk (oi_add i 2) ?_)
  refine va_sld hx hb hX hbl hbA hS (vin (by omega) (by omega) hL) gdL_law_1144 ?_
  refine lv_topk (scr_i scr i 2) ?_
  obtain ⟨v1, hv1, hq1⟩ := t_X12_take oM (scr_ scr i 1) (scr_ scr i 2) invM.1 (by omega) (by omega) invM.2
  refine kMi (oC := v0.2) (oM := oM) X (c_X12_take l g adM oM (scr_ scr i 1) (scr_ scr i 2) v1 hv1) rfl okm_X12_take okw_X12_take w_1937 rfl hK hP hD hS hA hZ hl.1 rfl (Nat.le_of_ble_eq_true rfl) ⟨(Nat.le_of_ble_eq_true rfl), (Nat.le_of_ble_eq_true rfl)⟩ gdL_law_1145 hcs (fun H locs hP hD hS => ?_)
  replace hq1 : BoxM v1.2 ∧ (Fr [(0, 0), (0, 2), (0, 32), (1, 9999), (16, 9999), (21, 9999), (25, 9999), (26, 9999), (27, 9999), (29, 9999), (30, 9999), (32, 9999), (34, 9999)] oM v1.2) := hq1
  replace invM : INVM v1.2 := invM.fr hq1.1 hq1.2 rfl rfl (fun _ => rfl)
  refine lv_pop hx hb gdL_law_1148 rfl ?_
  refine lv_goto (tgt := 1952) hx hb gdL_law_1149 (by decide) ?_
  have hR9 : REL v0.2 v1.2 := ⟨hR.1.fr hq0.2.1 hq1.2 (fun _ => rfl) (fun _ => rfl) (fun _ => rfl) (fun _ => rfl), hR.2.1.fr hq0.2.1 hq1.2 (fun _ => rfl) (fun _ => rfl) (fun _ => rfl) (fun _ => rfl), day_fr hR.2.2.1 hq0.2.1 hq1.2 rfl rfl, hR.2.2.2.1.fr hq0.2.1 hq1.2 rfl rfl (fun _ => rfl) (fun _ => rfl) (fun _ => rfl) (fun _ => rfl) (fun _ => rfl) (fun _ => rfl), hR.2.2.2.2.fr hq0.2.1 hq1.2 rfl rfl (fun _ => rfl) (fun _ => rfl)⟩
  exact kend v0.2 v1.2 _ _ _ invC invM hR9 hP hD hS hl
set_option maxHeartbeats 4000000 in
set_option maxRecDepth 100000 in
theorem law_24 (l : Launch) (g : GG) {p : Program} {e : Env} {s : State} {m : MethodId} {below : List Frame} {meth : Method} {c : Code} {b L : Nat} {scr : Nat → Int32} {A : Nat → Prop} {Q : State → Prop} {cells slots : Nat} {H : Heap} {locs : List Loc} {ls : Array Slot} {adC adM : Nat → Nat} {oC oM : OO} {B i : Int} (X : En p s m #[Value.ref b] meth c cL_law 4 ret R_law meth.name) (hK : va_K g.1 classes (tyG g) s) (hA : ∀ q, s.heap.size ≤ q → A q) (hZ : stS g A s s.heap) (hX : va_X b L scr s s.heap) (hbl : b < s.heap.size) (hbA : ¬ A b) (hcs : cells + 0 ≤ room_1.cells ∧ slots + 0 ≤ room_1.slots) (hL : L ≤ 3072) (i0 : 0 ≤ i) (i1 : i + 6 ≤ (L : Int)) (hB0 : 0 ≤ B) (hB1 : B ≤ 379000000) (invC : INVC oC B) (invM : INVM oM) (hR : REL oC oM) (hP : va_P g.1 classes (wC g adC oC ++ wM g adM oM) H) (hD : va_D A (wC g adC oC ++ wM g adM oM)) (hS : va_S A s.heap H locs) (hl : lv_has ls 4 [(3, iv i), (2, .ref (adM 0)), (1, .ref (adC 0)), (0, .ref b)])
    (kend : ∀ (oC oM : OO) (H : Heap) (locs : List Loc) (ls : Array Slot), INVC oC (B + 740000) → INVM oM → REL oC oM → va_P g.1 classes (wC g adC oC ++ wM g adM oM) H → va_D A (wC g adC oC ++ wM g adM oM) → va_S A s.heap H locs → lv_has ls 4 [(3, iv i), (2, .ref (adM 0)), (1, .ref (adC 0)), (0, .ref b)] → W p l e room_1 s m #[Value.ref b] below meth c H locs cells slots Q (F0 m 1952 ls [])) : W p l e room_1 s m #[Value.ref b] below meth c H locs cells slots Q (F0 m 1152 ls []) := by
  have hx := X.1
  have hb := X.2.1
  have sr1 := scr_R scr i 1
  have sr2 := scr_R scr i 2
  have sr3 := scr_R scr i 3
  have sr4 := scr_R scr i 4
  have sr5 := scr_R scr i 5
  have iC0 := invC
  have iM0 := invM
  refine lv_aload_n hx hb gdL_law_1152 rfl (lv_at hl 2 rfl) ?_
  refine lv_aload_n hx hb gdL_law_1153 rfl (lv_at hl 3 rfl) ?_
  refine lv_iload_n hx hb gdL_law_1154 rfl (lv_at hl 0 rfl) ?_
  refine lv_iconst (v := Int32.ofInt 1) hx hb gdL_law_1155 rfl ?_
  refine lv_iadd hx hb gdL_law_1156 (lv_topk (oi_add i 1) ?_)
  refine va_sld hx hb hX hbl hbA hS (vin (by omega) (by omega) hL) gdL_law_1157 ?_
  refine lv_topk (scr_i scr i 1) ?_
  refine lv_aload_n hx hb gdL_law_1158 rfl (lv_at hl 3 rfl) ?_
  refine lv_iload_n hx hb gdL_law_1159 rfl (lv_at hl 0 rfl) ?_
  refine lv_iconst (v := Int32.ofInt 2) hx hb gdL_law_1160 rfl ?_
  refine lv_iadd hx hb gdL_law_1161 (lv_topk (oi_add i 2) ?_)
  refine va_sld hx hb hX hbl hbA hS (vin (by omega) (by omega) hL) gdL_law_1162 ?_
  refine lv_topk (scr_i scr i 2) ?_
  refine lv_aload_n hx hb gdL_law_1163 rfl (lv_at hl 3 rfl) ?_
  refine lv_iload_n hx hb gdL_law_1164 rfl (lv_at hl 0 rfl) ?_
  refine lv_iconst (v := Int32.ofInt 3) hx hb gdL_law_1165 rfl ?_
  refine lv_iadd hx hb gdL_law_1166 (lv_topk (oi_add i 3) ?_)
  refine va_sld hx hb hX hbl hbA hS (vin (by omega) (by omega) hL) gdL_law_1167 ?_
  refine lv_topk (scr_i scr i 3) ?_
  obtain ⟨v0, hv0, hq0⟩ := t_X11_moved oC (scr_ scr i 1) (scr_ scr i 2) (scr_ scr i 3) invC.1 (by omega) (by omega) (by omega)
  refine kCi (oC := oC) (oM := oM) X (c_X11_moved l g adC oC (scr_ scr i 1) (scr_ scr i 2) (scr_ scr i 3) v0 hv0) rfl okm_X11_moved okw_X11_moved w_975 rfl hK hP hD hS hA hZ hl.1 rfl (Nat.le_of_ble_eq_true rfl) ⟨(Nat.le_of_ble_eq_true rfl), (Nat.le_of_ble_eq_true rfl)⟩ gdL_law_1168 hcs (fun H locs hP hD hS => ?_)
  replace hq0 : BoxC v0.2 ∧ (Fr [(0, 14), (0, 17), (14, 9999), (24, 9999), (32, 13), (33, 9999), (34, 9999), (35, 9999), (40, 9999), (41, 9999), (42, 9999), (77, 9999)] oC v0.2) := hq0
  replace invC : INVC v0.2 (B + 740000) := invC.fr hB0 hq0.1 hq0.2 rfl rfl (fun _ => rfl) (fun _ => rfl) (fun _ => rfl) (fun _ => rfl) (fun _ => rfl) (fun _ => rfl)
  refine lv_pop hx hb gdL_law_1171 rfl ?_
  refine lv_aload_n hx hb gdL_law_1172 rfl (lv_at hl 1 rfl) ?_
  refine lv_aload_n hx hb gdL_law_1173 rfl (lv_at hl 3 rfl) ?_
  refine lv_iload_n hx hb gdL_law_1174 rfl (lv_at hl 0 rfl) ?_
  refine lv_iconst (v := Int32.ofInt 1) hx hb gdL_law_1175 rfl ?_
  refine lv_iadd hx hb gdL_law_1176 (lv_topk (oi_add i 1) ?_)
  refine va_sld hx hb hX hbl hbA hS (vin (by omega) (by omega) hL) gdL_law_1177 ?_
  refine lv_topk (scr_i scr i 1) ?_
  refine lv_aload_n hx hb gdL_law_1178 rfl (lv_at hl 3 rfl) ?_
  refine lv_iload_n hx hb gdL_law_1179 rfl (lv_at hl 0 rfl) ?_
  refine lv_iconst (v := Int32.ofInt 2) hx hb gdL_law_1180 rfl ?_
  refine lv_iadd hx hb gdL_law_1181 (lv_topk (oi_add i 2) ?_)
  refine va_sld hx hb hX hbl hbA hS (vin (by omega) (by omega) hL) gdL_law_1182 ?_
  refine lv_topk (scr_i scr i 2) ?_
  refine lv_aload_n hx hb gdL_law_1183 rfl (lv_at hl 3 rfl) ?_
  refine lv_iload_n hx hb gdL_law_1184 rfl (lv_at hl 0 rfl) ?_
  refine lv_iconst (v := Int32.ofInt 3) hx hb gdL_law_1185 rfl ?_
  refine lv_iadd hx hb gdL_law_1186 (lv_topk (oi_add i 3) ?_)
  refine va_sld hx hb hX hbl hbA hS (vin (by omega) (by omega) hL) gdL_law_1187 ?_
  refine lv_topk (scr_i scr i 3) ?_
  obtain ⟨v1, hv1, hq1⟩ := t_X12_moved oM (scr_ scr i 1) (scr_ scr i 2) (scr_ scr i 3) invM.1 (by omega) (by omega) (by omega)
  refine kMi (oC := v0.2) (oM := oM) X (c_X12_moved l g adM oM (scr_ scr i 1) (scr_ scr i 2) (scr_ scr i 3) v1 hv1) rfl okm_X12_moved okw_X12_moved w_1945 rfl hK hP hD hS hA hZ hl.1 rfl (Nat.le_of_ble_eq_true rfl) ⟨(Nat.le_of_ble_eq_true rfl), (Nat.le_of_ble_eq_true rfl)⟩ gdL_law_1188 hcs (fun H locs hP hD hS => ?_)
  replace hq1 : BoxM v1.2 ∧ (Fr [(0, 0), (0, 2), (0, 32), (1, 9999), (21, 9999), (25, 9999), (26, 9999), (27, 9999), (29, 9999), (30, 9999), (32, 9999), (33, 9999)] oM v1.2) := hq1
  replace invM : INVM v1.2 := invM.fr hq1.1 hq1.2 rfl rfl (fun _ => rfl)
  refine lv_pop hx hb gdL_law_1191 rfl ?_
  refine lv_goto (tgt := 1952) hx hb gdL_law_1192 (by decide) ?_
  have hR9 : REL v0.2 v1.2 := ⟨hR.1.fr hq0.2 hq1.2 (fun _ => rfl) (fun _ => rfl) (fun _ => rfl) (fun _ => rfl), hR.2.1.fr hq0.2 hq1.2 (fun _ => rfl) (fun _ => rfl) (fun _ => rfl) (fun _ => rfl), day_fr hR.2.2.1 hq0.2 hq1.2 rfl rfl, hR.2.2.2.1.fr hq0.2 hq1.2 rfl rfl (fun _ => rfl) (fun _ => rfl) (fun _ => rfl) (fun _ => rfl) (fun _ => rfl) (fun _ => rfl), hR.2.2.2.2.fr hq0.2 hq1.2 rfl rfl (fun _ => rfl) (fun _ => rfl)⟩
  exact kend v0.2 v1.2 _ _ _ invC invM hR9 hP hD hS hl
set_option maxHeartbeats 4000000 in
set_option maxRecDepth 100000 in
theorem law_25 (l : Launch) (g : GG) {p : Program} {e : Env} {s : State} {m : MethodId} {below : List Frame} {meth : Method} {c : Code} {b L : Nat} {scr : Nat → Int32} {A : Nat → Prop} {Q : State → Prop} {cells slots : Nat} {H : Heap} {locs : List Loc} {ls : Array Slot} {adC adM : Nat → Nat} {oC oM : OO} {B i : Int} (X : En p s m #[Value.ref b] meth c cL_law 4 ret R_law meth.name) (hK : va_K g.1 classes (tyG g) s) (hA : ∀ q, s.heap.size ≤ q → A q) (hZ : stS g A s s.heap) (hX : va_X b L scr s s.heap) (hbl : b < s.heap.size) (hbA : ¬ A b) (hcs : cells + 0 ≤ room_1.cells ∧ slots + 0 ≤ room_1.slots) (hL : L ≤ 3072) (i0 : 0 ≤ i) (i1 : i + 6 ≤ (L : Int)) (hB0 : 0 ≤ B) (hB1 : B ≤ 379000000) (invC : INVC oC B) (invM : INVM oM) (hR : REL oC oM) (hP : va_P g.1 classes (wC g adC oC ++ wM g adM oM) H) (hD : va_D A (wC g adC oC ++ wM g adM oM)) (hS : va_S A s.heap H locs) (hl : lv_has ls 4 [(3, iv i), (2, .ref (adM 0)), (1, .ref (adC 0)), (0, .ref b)])
    (kend : ∀ (oC oM : OO) (H : Heap) (locs : List Loc) (ls : Array Slot), INVC oC (B + 740000) → INVM oM → REL oC oM → va_P g.1 classes (wC g adC oC ++ wM g adM oM) H → va_D A (wC g adC oC ++ wM g adM oM) → va_S A s.heap H locs → lv_has ls 4 [(3, iv i), (2, .ref (adM 0)), (1, .ref (adC 0)), (0, .ref b)] → W p l e room_1 s m #[Value.ref b] below meth c H locs cells slots Q (F0 m 1952 ls [])) : W p l e room_1 s m #[Value.ref b] below meth c H locs cells slots Q (F0 m 1195 ls []) := by
  have hx := X.1
  have hb := X.2.1
  have sr1 := scr_R scr i 1
  have sr2 := scr_R scr i 2
  have sr3 := scr_R scr i 3
  have sr4 := scr_R scr i 4
  have sr5 := scr_R scr i 5
  have iC0 := invC
  have iM0 := invM
  refine lv_aload_n hx hb gdL_law_1195 rfl (lv_at hl 2 rfl) ?_
  refine lv_aload_n hx hb gdL_law_1196 rfl (lv_at hl 3 rfl) ?_
  refine lv_iload_n hx hb gdL_law_1197 rfl (lv_at hl 0 rfl) ?_
  refine lv_iconst (v := Int32.ofInt 1) hx hb gdL_law_1198 rfl ?_
  refine lv_iadd hx hb gdL_law_1199 (lv_topk (oi_add i 1) ?_)
  refine va_sld hx hb hX hbl hbA hS (vin (by omega) (by omega) hL) gdL_law_1200 ?_
  refine lv_topk (scr_i scr i 1) ?_
  refine lv_aload_n hx hb gdL_law_1201 rfl (lv_at hl 3 rfl) ?_
  refine lv_iload_n hx hb gdL_law_1202 rfl (lv_at hl 0 rfl) ?_
  refine lv_iconst (v := Int32.ofInt 2) hx hb gdL_law_1203 rfl ?_
  refine lv_iadd hx hb gdL_law_1204 (lv_topk (oi_add i 2) ?_)
  refine va_sld hx hb hX hbl hbA hS (vin (by omega) (by omega) hL) gdL_law_1205 ?_
  refine lv_topk (scr_i scr i 2) ?_
  obtain ⟨v0, hv0, hq0⟩ := t_X11_grant oC (scr_ scr i 1) (scr_ scr i 2) invC.1 (by omega) (by omega)
  refine kCi (oC := oC) (oM := oM) X (c_X11_grant l g adC oC (scr_ scr i 1) (scr_ scr i 2) v0 hv0) rfl okm_X11_grant okw_X11_grant w_995 rfl hK hP hD hS hA hZ hl.1 rfl (Nat.le_of_ble_eq_true rfl) ⟨(Nat.le_of_ble_eq_true rfl), (Nat.le_of_ble_eq_true rfl)⟩ gdL_law_1206 hcs (fun H locs hP hD hS => ?_)
  replace hq0 : BoxC v0.2 ∧ (Fr [(32, 13), (33, 9999), (34, 9999), (35, 9999), (40, 9999), (41, 9999), (43, 9999)] oC v0.2) := hq0
  replace invC : INVC v0.2 (B + 740000) := invC.fr hB0 hq0.1 hq0.2 rfl rfl (fun _ => rfl) (fun _ => rfl) (fun _ => rfl) (fun _ => rfl) (fun _ => rfl) (fun _ => rfl)
  refine lv_pop hx hb gdL_law_1209 rfl ?_
  refine lv_aload_n hx hb gdL_law_1210 rfl (lv_at hl 1 rfl) ?_
  refine lv_aload_n hx hb gdL_law_1211 rfl (lv_at hl 3 rfl) ?_
  refine lv_iload_n hx hb gdL_law_1212 rfl (lv_at hl 0 rfl) ?_
  refine lv_iconst (v := Int32.ofInt 1) hx hb gdL_law_1213 rfl ?_
  refine lv_iadd hx hb gdL_law_1214 (lv_topk (oi_add i 1) ?_)
  refine va_sld hx hb hX hbl hbA hS (vin (by omega) (by omega) hL) gdL_law_1215 ?_
  refine lv_topk (scr_i scr i 1) ?_
  refine lv_aload_n hx hb gdL_law_1216 rfl (lv_at hl 3 rfl) ?_
  refine lv_iload_n hx hb gdL_law_1217 rfl (lv_at hl 0 rfl) ?_
  refine lv_iconst (v := Int32.ofInt 2) hx hb gdL_law_1218 rfl ?_
  refine lv_iadd hx hb gdL_law_1219 (lv_topk (oi_add i 2) ?_)
  refine va_sld hx hb hX hbl hbA hS (vin (by omega) (by omega) hL) gdL_law_1220 ?_
  refine lv_topk (scr_i scr i 2) ?_
  obtain ⟨v1, hv1, hq1⟩ := t_X12_grant oM (scr_ scr i 1) (scr_ scr i 2) invM.1 (by omega) (by omega)
  refine kMi (oC := v0.2) (oM := oM) X (c_X12_grant l g adM oM (scr_ scr i 1) (scr_ scr i 2) v1 hv1) rfl okm_X12_grant okw_X12_grant w_1949 rfl hK hP hD hS hA hZ hl.1 rfl (Nat.le_of_ble_eq_true rfl) ⟨(Nat.le_of_ble_eq_true rfl), (Nat.le_of_ble_eq_true rfl)⟩ gdL_law_1221 hcs (fun H locs hP hD hS => ?_)
  replace hq1 : BoxM v1.2 ∧ (Fr [(0, 32), (25, 9999), (26, 9999), (27, 9999), (29, 9999), (30, 9999), (35, 9999), (36, 9999)] oM v1.2) := hq1
  replace invM : INVM v1.2 := invM.fr hq1.1 hq1.2 rfl rfl (fun _ => rfl)
  refine lv_pop hx hb gdL_law_1224 rfl ?_
  refine lv_goto (tgt := 1952) hx hb gdL_law_1225 (by decide) ?_
  have hR9 : REL v0.2 v1.2 := ⟨hR.1.fr hq0.2 hq1.2 (fun _ => rfl) (fun _ => rfl) (fun _ => rfl) (fun _ => rfl), hR.2.1.fr hq0.2 hq1.2 (fun _ => rfl) (fun _ => rfl) (fun _ => rfl) (fun _ => rfl), day_fr hR.2.2.1 hq0.2 hq1.2 rfl rfl, hR.2.2.2.1.fr hq0.2 hq1.2 rfl rfl (fun _ => rfl) (fun _ => rfl) (fun _ => rfl) (fun _ => rfl) (fun _ => rfl) (fun _ => rfl), hR.2.2.2.2.fr hq0.2 hq1.2 rfl rfl (fun _ => rfl) (fun _ => rfl)⟩
  exact kend v0.2 v1.2 _ _ _ invC invM hR9 hP hD hS hl
