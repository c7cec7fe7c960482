/-! THE LAW, two: its links; its rows -/
theorem w_119 : Cond.classLink RL 7 RX11 ∈ gtb := gtb_in 119 (by decide +kernel) (by decide +kernel)
theorem w_121 : Cond.methodLink RL 9 yX11_init ∈ gtb := gtb_in 121 (by decide +kernel) (by decide +kernel)
theorem w_122 : Cond.instanceMethod yX11_init ∈ gtb := gtb_in 122 (by decide +kernel) (by decide +kernel)
set_option maxRecDepth 100000 in
theorem w_123 : Cond.code yX11_init cX11_init 2 none ∈ gtb := gtb_in 123 rfl (by decide +kernel)
theorem w_410 : Cond.methodLink RL 13 yX11_feed ∈ gtb := gtb_in 410 (by decide +kernel) (by decide +kernel)
theorem w_411 : Cond.instanceMethod yX11_feed ∈ gtb := gtb_in 411 (by decide +kernel) (by decide +kernel)
theorem w_412 : Cond.selects RX11 yX11_feed yX11_feed ∈ gtb := gtb_in 412 (by decide +kernel) (by decide +kernel)
theorem w_418 : Cond.methodLink RL 18 yX11_town ∈ gtb := gtb_in 418 (by decide +kernel) (by decide +kernel)
theorem w_419 : Cond.instanceMethod yX11_town ∈ gtb := gtb_in 419 (by decide +kernel) (by decide +kernel)
theorem w_420 : Cond.selects RX11 yX11_town yX11_town ∈ gtb := gtb_in 420 (by decide +kernel) (by decide +kernel)
theorem w_654 : Cond.methodLink RL 23 yX11_picture ∈ gtb := gtb_in 654 (by decide +kernel) (by decide +kernel)
theorem w_655 : Cond.instanceMethod yX11_picture ∈ gtb := gtb_in 655 (by decide +kernel) (by decide +kernel)
theorem w_656 : Cond.selects RX11 yX11_picture yX11_picture ∈ gtb := gtb_in 656 (by decide +kernel) (by decide +kernel)
theorem w_839 : Cond.methodLink RL 27 yX11_more ∈ gtb := gtb_in 839 (by decide +kernel) (by decide +kernel)
theorem w_840 : Cond.instanceMethod yX11_more ∈ gtb := gtb_in 840 (by decide +kernel) (by decide +kernel)
theorem w_841 : Cond.selects RX11 yX11_more yX11_more ∈ gtb := gtb_in 841 (by decide +kernel) (by decide +kernel)
theorem w_849 : Cond.methodLink RL 32 yX11_fault ∈ gtb := gtb_in 849 (by decide +kernel) (by decide +kernel)
theorem w_850 : Cond.instanceMethod yX11_fault ∈ gtb := gtb_in 850 (by decide +kernel) (by decide +kernel)
theorem w_851 : Cond.selects RX11 yX11_fault yX11_fault ∈ gtb := gtb_in 851 (by decide +kernel) (by decide +kernel)
theorem w_853 : Cond.methodLink RL 37 yX11_told ∈ gtb := gtb_in 853 (by decide +kernel) (by decide +kernel)
theorem w_854 : Cond.instanceMethod yX11_told ∈ gtb := gtb_in 854 (by decide +kernel) (by decide +kernel)
theorem w_855 : Cond.selects RX11 yX11_told yX11_told ∈ gtb := gtb_in 855 (by decide +kernel) (by decide +kernel)
theorem w_858 : Cond.methodLink RL 41 yX11_sign ∈ gtb := gtb_in 858 (by decide +kernel) (by decide +kernel)
theorem w_859 : Cond.instanceMethod yX11_sign ∈ gtb := gtb_in 859 (by decide +kernel) (by decide +kernel)
theorem w_860 : Cond.selects RX11 yX11_sign yX11_sign ∈ gtb := gtb_in 860 (by decide +kernel) (by decide +kernel)
theorem w_863 : Cond.methodLink RL 46 yX11_lets ∈ gtb := gtb_in 863 (by decide +kernel) (by decide +kernel)
theorem w_864 : Cond.instanceMethod yX11_lets ∈ gtb := gtb_in 864 (by decide +kernel) (by decide +kernel)
theorem w_865 : Cond.selects RX11 yX11_lets yX11_lets ∈ gtb := gtb_in 865 (by decide +kernel) (by decide +kernel)
theorem w_875 : Cond.methodLink RL 51 yX11_shadow ∈ gtb := gtb_in 875 (by decide +kernel) (by decide +kernel)
theorem w_876 : Cond.instanceMethod yX11_shadow ∈ gtb := gtb_in 876 (by decide +kernel) (by decide +kernel)
theorem w_877 : Cond.selects RX11 yX11_shadow yX11_shadow ∈ gtb := gtb_in 877 (by decide +kernel) (by decide +kernel)
theorem w_891 : Cond.methodLink RL 55 yX11_all ∈ gtb := gtb_in 891 (by decide +kernel) (by decide +kernel)
theorem w_892 : Cond.instanceMethod yX11_all ∈ gtb := gtb_in 892 (by decide +kernel) (by decide +kernel)
theorem w_893 : Cond.selects RX11 yX11_all yX11_all ∈ gtb := gtb_in 893 (by decide +kernel) (by decide +kernel)
theorem w_900 : Cond.methodLink RL 59 yX11_days ∈ gtb := gtb_in 900 (by decide +kernel) (by decide +kernel)
theorem w_901 : Cond.instanceMethod yX11_days ∈ gtb := gtb_in 901 (by decide +kernel) (by decide +kernel)
theorem w_902 : Cond.selects RX11 yX11_days yX11_days ∈ gtb := gtb_in 902 (by decide +kernel) (by decide +kernel)
theorem w_919 : Cond.methodLink RL 63 yX11_runs ∈ gtb := gtb_in 919 (by decide +kernel) (by decide +kernel)
theorem w_920 : Cond.instanceMethod yX11_runs ∈ gtb := gtb_in 920 (by decide +kernel) (by decide +kernel)
theorem w_921 : Cond.selects RX11 yX11_runs yX11_runs ∈ gtb := gtb_in 921 (by decide +kernel) (by decide +kernel)
theorem w_943 : Cond.methodLink RL 67 yX11_judge ∈ gtb := gtb_in 943 (by decide +kernel) (by decide +kernel)
theorem w_944 : Cond.instanceMethod yX11_judge ∈ gtb := gtb_in 944 (by decide +kernel) (by decide +kernel)
theorem w_945 : Cond.selects RX11 yX11_judge yX11_judge ∈ gtb := gtb_in 945 (by decide +kernel) (by decide +kernel)
theorem w_947 : Cond.methodLink RL 71 yX11_quarrel ∈ gtb := gtb_in 947 (by decide +kernel) (by decide +kernel)
theorem w_948 : Cond.instanceMethod yX11_quarrel ∈ gtb := gtb_in 948 (by decide +kernel) (by decide +kernel)
theorem w_949 : Cond.selects RX11 yX11_quarrel yX11_quarrel ∈ gtb := gtb_in 949 (by decide +kernel) (by decide +kernel)
theorem w_986 : Cond.methodLink RL 75 yX11_doubt ∈ gtb := gtb_in 986 (by decide +kernel) (by decide +kernel)
theorem w_987 : Cond.instanceMethod yX11_doubt ∈ gtb := gtb_in 987 (by decide +kernel) (by decide +kernel)
theorem w_988 : Cond.selects RX11 yX11_doubt yX11_doubt ∈ gtb := gtb_in 988 (by decide +kernel) (by decide +kernel)
theorem w_999 : Cond.methodLink RL 79 yX11_stood ∈ gtb := gtb_in 999 (by decide +kernel) (by decide +kernel)
theorem w_1000 : Cond.instanceMethod yX11_stood ∈ gtb := gtb_in 1000 (by decide +kernel) (by decide +kernel)
theorem w_1001 : Cond.selects RX11 yX11_stood yX11_stood ∈ gtb := gtb_in 1001 (by decide +kernel) (by decide +kernel)
theorem w_1014 : Cond.methodLink RL 84 yX11_late ∈ gtb := gtb_in 1014 (by decide +kernel) (by decide +kernel)
theorem w_1015 : Cond.instanceMethod yX11_late ∈ gtb := gtb_in 1015 (by decide +kernel) (by decide +kernel)
theorem w_1016 : Cond.selects RX11 yX11_late yX11_late ∈ gtb := gtb_in 1016 (by decide +kernel) (by decide +kernel)
theorem w_1027 : Cond.methodLink RL 88 yX11_couples ∈ gtb := gtb_in 1027 (by decide +kernel) (by decide +kernel)
theorem w_1028 : Cond.instanceMethod yX11_couples ∈ gtb := gtb_in 1028 (by decide +kernel) (by decide +kernel)
theorem w_1029 : Cond.selects RX11 yX11_couples yX11_couples ∈ gtb := gtb_in 1029 (by decide +kernel) (by decide +kernel)
theorem w_1046 : Cond.methodLink RL 93 yX11_weight ∈ gtb := gtb_in 1046 (by decide +kernel) (by decide +kernel)
theorem w_1047 : Cond.instanceMethod yX11_weight ∈ gtb := gtb_in 1047 (by decide +kernel) (by decide +kernel)
theorem w_1048 : Cond.selects RX11 yX11_weight yX11_weight ∈ gtb := gtb_in 1048 (by decide +kernel) (by decide +kernel)
theorem w_1054 : Cond.methodLink RL 98 yX11_likely ∈ gtb := gtb_in 1054 (by decide +kernel) (by decide +kernel)
theorem w_1055 : Cond.instanceMethod yX11_likely ∈ gtb := gtb_in 1055 (by decide +kernel) (by decide +kernel)
theorem w_1056 : Cond.selects RX11 yX11_likely yX11_likely ∈ gtb := gtb_in 1056 (by decide +kernel) (by decide +kernel)
theorem w_1063 : Cond.methodLink RL 103 yX11_look ∈ gtb := gtb_in 1063 (by decide +kernel) (by decide +kernel)
theorem w_1064 : Cond.instanceMethod yX11_look ∈ gtb := gtb_in 1064 (by decide +kernel) (by decide +kernel)
theorem w_1065 : Cond.selects RX11 yX11_look yX11_look ∈ gtb := gtb_in 1065 (by decide +kernel) (by decide +kernel)
theorem w_1106 : Cond.methodLink RL 108 yX11_next ∈ gtb := gtb_in 1106 (by decide +kernel) (by decide +kernel)
theorem w_1107 : Cond.instanceMethod yX11_next ∈ gtb := gtb_in 1107 (by decide +kernel) (by decide +kernel)
theorem w_1108 : Cond.selects RX11 yX11_next yX11_next ∈ gtb := gtb_in 1108 (by decide +kernel) (by decide +kernel)
theorem w_1119 : Cond.methodLink RL 112 yX11_cloud ∈ gtb := gtb_in 1119 (by decide +kernel) (by decide +kernel)
theorem w_1120 : Cond.instanceMethod yX11_cloud ∈ gtb := gtb_in 1120 (by decide +kernel) (by decide +kernel)
theorem w_1121 : Cond.selects RX11 yX11_cloud yX11_cloud ∈ gtb := gtb_in 1121 (by decide +kernel) (by decide +kernel)
theorem w_1154 : Cond.methodLink RL 116 yX11_image ∈ gtb := gtb_in 1154 (by decide +kernel) (by decide +kernel)
theorem w_1155 : Cond.instanceMethod yX11_image ∈ gtb := gtb_in 1155 (by decide +kernel) (by decide +kernel)
theorem w_1156 : Cond.selects RX11 yX11_image yX11_image ∈ gtb := gtb_in 1156 (by decide +kernel) (by decide +kernel)
theorem w_1163 : Cond.methodLink RL 120 yX11_back ∈ gtb := gtb_in 1163 (by decide +kernel) (by decide +kernel)
theorem w_1164 : Cond.instanceMethod yX11_back ∈ gtb := gtb_in 1164 (by decide +kernel) (by decide +kernel)
theorem w_1165 : Cond.selects RX11 yX11_back yX11_back ∈ gtb := gtb_in 1165 (by decide +kernel) (by decide +kernel)
theorem w_1167 : Cond.methodLink RL 125 yX11_count ∈ gtb := gtb_in 1167 (by decide +kernel) (by decide +kernel)
theorem w_1168 : Cond.instanceMethod yX11_count ∈ gtb := gtb_in 1168 (by decide +kernel) (by decide +kernel)
theorem w_1169 : Cond.selects RX11 yX11_count yX11_count ∈ gtb := gtb_in 1169 (by decide +kernel) (by decide +kernel)
theorem w_1176 : Cond.classLink RL 10 RX12 ∈ gtb := gtb_in 1176 (by decide +kernel) (by decide +kernel)
theorem w_1178 : Cond.methodLink RL 12 yX12_init ∈ gtb := gtb_in 1178 (by decide +kernel) (by decide +kernel)
theorem w_1179 : Cond.instanceMethod yX12_init ∈ gtb := gtb_in 1179 (by decide +kernel) (by decide +kernel)
set_option maxRecDepth 100000 in
theorem w_1180 : Cond.code yX12_init cX12_init 2 none ∈ gtb := gtb_in 1180 rfl (by decide +kernel)
theorem w_1388 : Cond.methodLink RL 17 yX12_feed ∈ gtb := gtb_in 1388 (by decide +kernel) (by decide +kernel)
theorem w_1389 : Cond.instanceMethod yX12_feed ∈ gtb := gtb_in 1389 (by decide +kernel) (by decide +kernel)
theorem w_1390 : Cond.selects RX12 yX12_feed yX12_feed ∈ gtb := gtb_in 1390 (by decide +kernel) (by decide +kernel)
theorem w_1392 : Cond.methodLink RL 22 yX12_town ∈ gtb := gtb_in 1392 (by decide +kernel) (by decide +kernel)
theorem w_1393 : Cond.instanceMethod yX12_town ∈ gtb := gtb_in 1393 (by decide +kernel) (by decide +kernel)
theorem w_1394 : Cond.selects RX12 yX12_town yX12_town ∈ gtb := gtb_in 1394 (by decide +kernel) (by decide +kernel)
theorem w_1504 : Cond.methodLink RL 26 yX12_picture ∈ gtb := gtb_in 1504 (by decide +kernel) (by decide +kernel)
theorem w_1505 : Cond.instanceMethod yX12_picture ∈ gtb := gtb_in 1505 (by decide +kernel) (by decide +kernel)
theorem w_1506 : Cond.selects RX12 yX12_picture yX12_picture ∈ gtb := gtb_in 1506 (by decide +kernel) (by decide +kernel)
theorem w_1536 : Cond.methodLink RL 31 yX12_more ∈ gtb := gtb_in 1536 (by decide +kernel) (by decide +kernel)
theorem w_1537 : Cond.instanceMethod yX12_more ∈ gtb := gtb_in 1537 (by decide +kernel) (by decide +kernel)
theorem w_1538 : Cond.selects RX12 yX12_more yX12_more ∈ gtb := gtb_in 1538 (by decide +kernel) (by decide +kernel)
theorem w_1544 : Cond.methodLink RL 36 yX12_fault ∈ gtb := gtb_in 1544 (by decide +kernel) (by decide +kernel)
theorem w_1545 : Cond.instanceMethod yX12_fault ∈ gtb := gtb_in 1545 (by decide +kernel) (by decide +kernel)
theorem w_1546 : Cond.selects RX12 yX12_fault yX12_fault ∈ gtb := gtb_in 1546 (by decide +kernel) (by decide +kernel)
theorem w_1548 : Cond.methodLink RL 40 yX12_told ∈ gtb := gtb_in 1548 (by decide +kernel) (by decide +kernel)
theorem w_1549 : Cond.instanceMethod yX12_told ∈ gtb := gtb_in 1549 (by decide +kernel) (by decide +kernel)
theorem w_1550 : Cond.selects RX12 yX12_told yX12_told ∈ gtb := gtb_in 1550 (by decide +kernel) (by decide +kernel)
theorem w_1552 : Cond.methodLink RL 45 yX12_sign ∈ gtb := gtb_in 1552 (by decide +kernel) (by decide +kernel)
theorem w_1553 : Cond.instanceMethod yX12_sign ∈ gtb := gtb_in 1553 (by decide +kernel) (by decide +kernel)
theorem w_1554 : Cond.selects RX12 yX12_sign yX12_sign ∈ gtb := gtb_in 1554 (by decide +kernel) (by decide +kernel)
theorem w_1560 : Cond.methodLink RL 54 yX12_shadow ∈ gtb := gtb_in 1560 (by decide +kernel) (by decide +kernel)
theorem w_1561 : Cond.instanceMethod yX12_shadow ∈ gtb := gtb_in 1561 (by decide +kernel) (by decide +kernel)
theorem w_1562 : Cond.selects RX12 yX12_shadow yX12_shadow ∈ gtb := gtb_in 1562 (by decide +kernel) (by decide +kernel)
theorem w_1573 : Cond.methodLink RL 50 yX12_lets ∈ gtb := gtb_in 1573 (by decide +kernel) (by decide +kernel)
theorem w_1605 : Cond.methodLink RL 70 yX12_judge ∈ gtb := gtb_in 1605 (by decide +kernel) (by decide +kernel)
theorem w_1606 : Cond.instanceMethod yX12_judge ∈ gtb := gtb_in 1606 (by decide +kernel) (by decide +kernel)
theorem w_1607 : Cond.selects RX12 yX12_judge yX12_judge ∈ gtb := gtb_in 1607 (by decide +kernel) (by decide +kernel)
theorem w_1610 : Cond.methodLink RL 58 yX12_all ∈ gtb := gtb_in 1610 (by decide +kernel) (by decide +kernel)
theorem w_1611 : Cond.instanceMethod yX12_all ∈ gtb := gtb_in 1611 (by decide +kernel) (by decide +kernel)
theorem w_1612 : Cond.selects RX12 yX12_all yX12_all ∈ gtb := gtb_in 1612 (by decide +kernel) (by decide +kernel)
theorem w_1634 : Cond.methodLink RL 62 yX12_days ∈ gtb := gtb_in 1634 (by decide +kernel) (by decide +kernel)
theorem w_1635 : Cond.instanceMethod yX12_days ∈ gtb := gtb_in 1635 (by decide +kernel) (by decide +kernel)
theorem w_1636 : Cond.selects RX12 yX12_days yX12_days ∈ gtb := gtb_in 1636 (by decide +kernel) (by decide +kernel)
theorem w_1638 : Cond.methodLink RL 66 yX12_runs ∈ gtb := gtb_in 1638 (by decide +kernel) (by decide +kernel)
theorem w_1639 : Cond.instanceMethod yX12_runs ∈ gtb := gtb_in 1639 (by decide +kernel) (by decide +kernel)
theorem w_1640 : Cond.selects RX12 yX12_runs yX12_runs ∈ gtb := gtb_in 1640 (by decide +kernel) (by decide +kernel)
theorem w_1654 : Cond.methodLink RL 74 yX12_quarrel ∈ gtb := gtb_in 1654 (by decide +kernel) (by decide +kernel)
theorem w_1655 : Cond.instanceMethod yX12_quarrel ∈ gtb := gtb_in 1655 (by decide +kernel) (by decide +kernel)
theorem w_1656 : Cond.selects RX12 yX12_quarrel yX12_quarrel ∈ gtb := gtb_in 1656 (by decide +kernel) (by decide +kernel)
theorem w_1673 : Cond.methodLink RL 78 yX12_doubt ∈ gtb := gtb_in 1673 (by decide +kernel) (by decide +kernel)
theorem w_1674 : Cond.instanceMethod yX12_doubt ∈ gtb := gtb_in 1674 (by decide +kernel) (by decide +kernel)
theorem w_1675 : Cond.selects RX12 yX12_doubt yX12_doubt ∈ gtb := gtb_in 1675 (by decide +kernel) (by decide +kernel)
theorem w_1677 : Cond.methodLink RL 83 yX12_stood ∈ gtb := gtb_in 1677 (by decide +kernel) (by decide +kernel)
theorem w_1678 : Cond.instanceMethod yX12_stood ∈ gtb := gtb_in 1678 (by decide +kernel) (by decide +kernel)
theorem w_1679 : Cond.selects RX12 yX12_stood yX12_stood ∈ gtb := gtb_in 1679 (by decide +kernel) (by decide +kernel)
theorem w_1693 : Cond.methodLink RL 87 yX12_late ∈ gtb := gtb_in 1693 (by decide +kernel) (by decide +kernel)
theorem w_1694 : Cond.instanceMethod yX12_late ∈ gtb := gtb_in 1694 (by decide +kernel) (by decide +kernel)
theorem w_1695 : Cond.selects RX12 yX12_late yX12_late ∈ gtb := gtb_in 1695 (by decide +kernel) (by decide +kernel)
theorem w_1701 : Cond.methodLink RL 92 yX12_couples ∈ gtb := gtb_in 1701 (by decide +kernel) (by decide +kernel)
theorem w_1702 : Cond.instanceMethod yX12_couples ∈ gtb := gtb_in 1702 (by decide +kernel) (by decide +kernel)
theorem w_1703 : Cond.selects RX12 yX12_couples yX12_couples ∈ gtb := gtb_in 1703 (by decide +kernel) (by decide +kernel)
theorem w_1713 : Cond.methodLink RL 97 yX12_weight ∈ gtb := gtb_in 1713 (by decide +kernel) (by decide +kernel)
theorem w_1714 : Cond.instanceMethod yX12_weight ∈ gtb := gtb_in 1714 (by decide +kernel) (by decide +kernel)
theorem w_1715 : Cond.selects RX12 yX12_weight yX12_weight ∈ gtb := gtb_in 1715 (by decide +kernel) (by decide +kernel)
theorem w_1717 : Cond.methodLink RL 102 yX12_likely ∈ gtb := gtb_in 1717 (by decide +kernel) (by decide +kernel)
theorem w_1718 : Cond.instanceMethod yX12_likely ∈ gtb := gtb_in 1718 (by decide +kernel) (by decide +kernel)
theorem w_1719 : Cond.selects RX12 yX12_likely yX12_likely ∈ gtb := gtb_in 1719 (by decide +kernel) (by decide +kernel)
theorem w_1721 : Cond.methodLink RL 107 yX12_look ∈ gtb := gtb_in 1721 (by decide +kernel) (by decide +kernel)
theorem w_1722 : Cond.instanceMethod yX12_look ∈ gtb := gtb_in 1722 (by decide +kernel) (by decide +kernel)
theorem w_1723 : Cond.selects RX12 yX12_look yX12_look ∈ gtb := gtb_in 1723 (by decide +kernel) (by decide +kernel)
theorem w_1729 : Cond.methodLink RL 111 yX12_next_ ∈ gtb := gtb_in 1729 (by decide +kernel) (by decide +kernel)
theorem w_1730 : Cond.instanceMethod yX12_next_ ∈ gtb := gtb_in 1730 (by decide +kernel) (by decide +kernel)
theorem w_1731 : Cond.selects RX12 yX12_next_ yX12_next_ ∈ gtb := gtb_in 1731 (by decide +kernel) (by decide +kernel)
theorem w_1737 : Cond.methodLink RL 115 yX12_cloud ∈ gtb := gtb_in 1737 (by decide +kernel) (by decide +kernel)
theorem w_1738 : Cond.instanceMethod yX12_cloud ∈ gtb := gtb_in 1738 (by decide +kernel) (by decide +kernel)
theorem w_1739 : Cond.selects RX12 yX12_cloud yX12_cloud ∈ gtb := gtb_in 1739 (by decide +kernel) (by decide +kernel)
theorem w_1749 : Cond.methodLink RL 119 yX12_image ∈ gtb := gtb_in 1749 (by decide +kernel) (by decide +kernel)
theorem w_1750 : Cond.instanceMethod yX12_image ∈ gtb := gtb_in 1750 (by decide +kernel) (by decide +kernel)
theorem w_1751 : Cond.selects RX12 yX12_image yX12_image ∈ gtb := gtb_in 1751 (by decide +kernel) (by decide +kernel)
theorem w_1757 : Cond.methodLink RL 124 yX12_back ∈ gtb := gtb_in 1757 (by decide +kernel) (by decide +kernel)
theorem w_1758 : Cond.instanceMethod yX12_back ∈ gtb := gtb_in 1758 (by decide +kernel) (by decide +kernel)
theorem w_1759 : Cond.selects RX12 yX12_back yX12_back ∈ gtb := gtb_in 1759 (by decide +kernel) (by decide +kernel)
theorem w_1761 : Cond.methodLink RL 128 yX12_count ∈ gtb := gtb_in 1761 (by decide +kernel) (by decide +kernel)
theorem w_1762 : Cond.instanceMethod yX12_count ∈ gtb := gtb_in 1762 (by decide +kernel) (by decide +kernel)
theorem w_1763 : Cond.selects RX12 yX12_count yX12_count ∈ gtb := gtb_in 1763 (by decide +kernel) (by decide +kernel)
theorem lk_L_9 : LkB RL 9 0 mX11_init ∧ (Cond.instanceMethod (mY mX11_init) ∈ gtb ∧ (mY mX11_init).name = "<init>") := ⟨⟨w_123, w_98, w_121, ⟨by decide, by decide, by decide +kernel⟩, by decide +kernel⟩, ⟨w_122, rfl⟩⟩
theorem lk_L_12 : LkB RL 12 0 mX12_init ∧ (Cond.instanceMethod (mY mX12_init) ∈ gtb ∧ (mY mX12_init).name = "<init>") := ⟨⟨w_1180, w_111, w_1178, ⟨by decide, by decide, by decide +kernel⟩, by decide +kernel⟩, ⟨w_1179, rfl⟩⟩
theorem lk_L_13 : LkB RL 13 5 mX11_feed ∧ (Cond.instanceMethod (mY mX11_feed) ∈ gtb ∧ Cond.selects (mY mX11_feed).cls (mY mX11_feed) (mY mX11_feed) ∈ gtb) := ⟨⟨w_413, w_98, w_410, ⟨by decide, by decide, by decide +kernel⟩, by decide +kernel⟩, ⟨w_411, w_412⟩⟩
theorem lk_L_17 : LkB RL 17 5 mX12_feed ∧ (Cond.instanceMethod (mY mX12_feed) ∈ gtb ∧ Cond.selects (mY mX12_feed).cls (mY mX12_feed) (mY mX12_feed) ∈ gtb) := ⟨⟨w_1391, w_111, w_1388, ⟨by decide, by decide, by decide +kernel⟩, by decide +kernel⟩, ⟨w_1389, w_1390⟩⟩
theorem lk_L_18 : LkB RL 18 1 mX11_town ∧ (Cond.instanceMethod (mY mX11_town) ∈ gtb ∧ Cond.selects (mY mX11_town).cls (mY mX11_town) (mY mX11_town) ∈ gtb) := ⟨⟨w_421, w_98, w_418, ⟨by decide, by decide, by decide +kernel⟩, by decide +kernel⟩, ⟨w_419, w_420⟩⟩
theorem lk_L_22 : LkB RL 22 1 mX12_town ∧ (Cond.instanceMethod (mY mX12_town) ∈ gtb ∧ Cond.selects (mY mX12_town).cls (mY mX12_town) (mY mX12_town) ∈ gtb) := ⟨⟨w_1395, w_111, w_1392, ⟨by decide, by decide, by decide +kernel⟩, by decide +kernel⟩, ⟨w_1393, w_1394⟩⟩
theorem lk_L_23 : LkB RL 23 1 mX11_picture ∧ (Cond.instanceMethod (mY mX11_picture) ∈ gtb ∧ Cond.selects (mY mX11_picture).cls (mY mX11_picture) (mY mX11_picture) ∈ gtb) := ⟨⟨w_657, w_98, w_654, ⟨by decide, by decide, by decide +kernel⟩, by decide +kernel⟩, ⟨w_655, w_656⟩⟩
theorem lk_L_26 : LkB RL 26 1 mX12_picture ∧ (Cond.instanceMethod (mY mX12_picture) ∈ gtb ∧ Cond.selects (mY mX12_picture).cls (mY mX12_picture) (mY mX12_picture) ∈ gtb) := ⟨⟨w_1507, w_111, w_1504, ⟨by decide, by decide, by decide +kernel⟩, by decide +kernel⟩, ⟨w_1505, w_1506⟩⟩
theorem lk_L_27 : LkB RL 27 2 mX11_more ∧ (Cond.instanceMethod (mY mX11_more) ∈ gtb ∧ Cond.selects (mY mX11_more).cls (mY mX11_more) (mY mX11_more) ∈ gtb) := ⟨⟨w_842, w_98, w_839, ⟨by decide, by decide, by decide +kernel⟩, by decide +kernel⟩, ⟨w_840, w_841⟩⟩
theorem lk_L_31 : LkB RL 31 2 mX12_more ∧ (Cond.instanceMethod (mY mX12_more) ∈ gtb ∧ Cond.selects (mY mX12_more).cls (mY mX12_more) (mY mX12_more) ∈ gtb) := ⟨⟨w_1539, w_111, w_1536, ⟨by decide, by decide, by decide +kernel⟩, by decide +kernel⟩, ⟨w_1537, w_1538⟩⟩
theorem lk_L_32 : LkB RL 32 0 mX11_fault ∧ (Cond.instanceMethod (mY mX11_fault) ∈ gtb ∧ Cond.selects (mY mX11_fault).cls (mY mX11_fault) (mY mX11_fault) ∈ gtb) := ⟨⟨w_852, w_98, w_849, ⟨by decide, by decide, by decide +kernel⟩, by decide +kernel⟩, ⟨w_850, w_851⟩⟩
theorem lk_L_36 : LkB RL 36 0 mX12_fault ∧ (Cond.instanceMethod (mY mX12_fault) ∈ gtb ∧ Cond.selects (mY mX12_fault).cls (mY mX12_fault) (mY mX12_fault) ∈ gtb) := ⟨⟨w_1547, w_111, w_1544, ⟨by decide, by decide, by decide +kernel⟩, by decide +kernel⟩, ⟨w_1545, w_1546⟩⟩
theorem lk_L_37 : LkB RL 37 1 mX11_told ∧ (Cond.instanceMethod (mY mX11_told) ∈ gtb ∧ Cond.selects (mY mX11_told).cls (mY mX11_told) (mY mX11_told) ∈ gtb) := ⟨⟨w_856, w_98, w_853, ⟨by decide, by decide, by decide +kernel⟩, by decide +kernel⟩, ⟨w_854, w_855⟩⟩
theorem lk_L_40 : LkB RL 40 1 mX12_told ∧ (Cond.instanceMethod (mY mX12_told) ∈ gtb ∧ Cond.selects (mY mX12_told).cls (mY mX12_told) (mY mX12_told) ∈ gtb) := ⟨⟨w_1551, w_111, w_1548, ⟨by decide, by decide, by decide +kernel⟩, by decide +kernel⟩, ⟨w_1549, w_1550⟩⟩
theorem lk_L_41 : LkB RL 41 3 mX11_sign ∧ (Cond.instanceMethod (mY mX11_sign) ∈ gtb ∧ Cond.selects (mY mX11_sign).cls (mY mX11_sign) (mY mX11_sign) ∈ gtb) := ⟨⟨w_861, w_98, w_858, ⟨by decide, by decide, by decide +kernel⟩, by decide +kernel⟩, ⟨w_859, w_860⟩⟩
theorem lk_L_45 : LkB RL 45 3 mX12_sign ∧ (Cond.instanceMethod (mY mX12_sign) ∈ gtb ∧ Cond.selects (mY mX12_sign).cls (mY mX12_sign) (mY mX12_sign) ∈ gtb) := ⟨⟨w_1555, w_111, w_1552, ⟨by decide, by decide, by decide +kernel⟩, by decide +kernel⟩, ⟨w_1553, w_1554⟩⟩
theorem lk_L_46 : LkB RL 46 4 mX11_lets ∧ (Cond.instanceMethod (mY mX11_lets) ∈ gtb ∧ Cond.selects (mY mX11_lets).cls (mY mX11_lets) (mY mX11_lets) ∈ gtb) := ⟨⟨w_866, w_98, w_863, ⟨by decide, by decide, by decide +kernel⟩, by decide +kernel⟩, ⟨w_864, w_865⟩⟩
theorem lk_L_50 : LkB RL 50 4 mX12_lets ∧ (Cond.instanceMethod (mY mX12_lets) ∈ gtb ∧ Cond.selects (mY mX12_lets).cls (mY mX12_lets) (mY mX12_lets) ∈ gtb) := ⟨⟨w_1576, w_111, w_1573, ⟨by decide, by decide, by decide +kernel⟩, by decide +kernel⟩, ⟨w_1574, w_1575⟩⟩
theorem lk_L_51 : LkB RL 51 4 mX11_shadow ∧ (Cond.instanceMethod (mY mX11_shadow) ∈ gtb ∧ Cond.selects (mY mX11_shadow).cls (mY mX11_shadow) (mY mX11_shadow) ∈ gtb) := ⟨⟨w_878, w_98, w_875, ⟨by decide, by decide, by decide +kernel⟩, by decide +kernel⟩, ⟨w_876, w_877⟩⟩
theorem lk_L_54 : LkB RL 54 4 mX12_shadow ∧ (Cond.instanceMethod (mY mX12_shadow) ∈ gtb ∧ Cond.selects (mY mX12_shadow).cls (mY mX12_shadow) (mY mX12_shadow) ∈ gtb) := ⟨⟨w_1563, w_111, w_1560, ⟨by decide, by decide, by decide +kernel⟩, by decide +kernel⟩, ⟨w_1561, w_1562⟩⟩
theorem lk_L_55 : LkB RL 55 1 mX11_all ∧ (Cond.instanceMethod (mY mX11_all) ∈ gtb ∧ Cond.selects (mY mX11_all).cls (mY mX11_all) (mY mX11_all) ∈ gtb) := ⟨⟨w_894, w_98, w_891, ⟨by decide, by decide, by decide +kernel⟩, by decide +kernel⟩, ⟨w_892, w_893⟩⟩
theorem lk_L_58 : LkB RL 58 1 mX12_all ∧ (Cond.instanceMethod (mY mX12_all) ∈ gtb ∧ Cond.selects (mY mX12_all).cls (mY mX12_all) (mY mX12_all) ∈ gtb) := ⟨⟨w_1613, w_111, w_1610, ⟨by decide, by decide, by decide +kernel⟩, by decide +kernel⟩, ⟨w_1611, w_1612⟩⟩
theorem lk_L_59 : LkB RL 59 2 mX11_days ∧ (Cond.instanceMethod (mY mX11_days) ∈ gtb ∧ Cond.selects (mY mX11_days).cls (mY mX11_days) (mY mX11_days) ∈ gtb) := ⟨⟨w_903, w_98, w_900, ⟨by decide, by decide, by decide +kernel⟩, by decide +kernel⟩, ⟨w_901, w_902⟩⟩
theorem lk_L_62 : LkB RL 62 2 mX12_days ∧ (Cond.instanceMethod (mY mX12_days) ∈ gtb ∧ Cond.selects (mY mX12_days).cls (mY mX12_days) (mY mX12_days) ∈ gtb) := ⟨⟨w_1637, w_111, w_1634, ⟨by decide, by decide, by decide +kernel⟩, by decide +kernel⟩, ⟨w_1635, w_1636⟩⟩
theorem lk_L_63 : LkB RL 63 3 mX11_runs ∧ (Cond.instanceMethod (mY mX11_runs) ∈ gtb ∧ Cond.selects (mY mX11_runs).cls (mY mX11_runs) (mY mX11_runs) ∈ gtb) := ⟨⟨w_922, w_98, w_919, ⟨by decide, by decide, by decide +kernel⟩, by decide +kernel⟩, ⟨w_920, w_921⟩⟩
theorem lk_L_66 : LkB RL 66 3 mX12_runs ∧ (Cond.instanceMethod (mY mX12_runs) ∈ gtb ∧ Cond.selects (mY mX12_runs).cls (mY mX12_runs) (mY mX12_runs) ∈ gtb) := ⟨⟨w_1641, w_111, w_1638, ⟨by decide, by decide, by decide +kernel⟩, by decide +kernel⟩, ⟨w_1639, w_1640⟩⟩
theorem lk_L_67 : LkB RL 67 3 mX11_judge ∧ (Cond.instanceMethod (mY mX11_judge) ∈ gtb ∧ Cond.selects (mY mX11_judge).cls (mY mX11_judge) (mY mX11_judge) ∈ gtb) := ⟨⟨w_946, w_98, w_943, ⟨by decide, by decide, by decide +kernel⟩, by decide +kernel⟩, ⟨w_944, w_945⟩⟩
theorem lk_L_70 : LkB RL 70 3 mX12_judge ∧ (Cond.instanceMethod (mY mX12_judge) ∈ gtb ∧ Cond.selects (mY mX12_judge).cls (mY mX12_judge) (mY mX12_judge) ∈ gtb) := ⟨⟨w_1608, w_111, w_1605, ⟨by decide, by decide, by decide +kernel⟩, by decide +kernel⟩, ⟨w_1606, w_1607⟩⟩
theorem lk_L_71 : LkB RL 71 1 mX11_quarrel ∧ (Cond.instanceMethod (mY mX11_quarrel) ∈ gtb ∧ Cond.selects (mY mX11_quarrel).cls (mY mX11_quarrel) (mY mX11_quarrel) ∈ gtb) := ⟨⟨w_950, w_98, w_947, ⟨by decide, by decide, by decide +kernel⟩, by decide +kernel⟩, ⟨w_948, w_949⟩⟩
theorem lk_L_74 : LkB RL 74 1 mX12_quarrel ∧ (Cond.instanceMethod (mY mX12_quarrel) ∈ gtb ∧ Cond.selects (mY mX12_quarrel).cls (mY mX12_quarrel) (mY mX12_quarrel) ∈ gtb) := ⟨⟨w_1657, w_111, w_1654, ⟨by decide, by decide, by decide +kernel⟩, by decide +kernel⟩, ⟨w_1655, w_1656⟩⟩
theorem lk_L_75 : LkB RL 75 2 mX11_doubt ∧ (Cond.instanceMethod (mY mX11_doubt) ∈ gtb ∧ Cond.selects (mY mX11_doubt).cls (mY mX11_doubt) (mY mX11_doubt) ∈ gtb) := ⟨⟨w_989, w_98, w_986, ⟨by decide, by decide, by decide +kernel⟩, by decide +kernel⟩, ⟨w_987, w_988⟩⟩
theorem lk_L_78 : LkB RL 78 2 mX12_doubt ∧ (Cond.instanceMethod (mY mX12_doubt) ∈ gtb ∧ Cond.selects (mY mX12_doubt).cls (mY mX12_doubt) (mY mX12_doubt) ∈ gtb) := ⟨⟨w_1676, w_111, w_1673, ⟨by decide, by decide, by decide +kernel⟩, by decide +kernel⟩, ⟨w_1674, w_1675⟩⟩
theorem lk_L_79 : LkB RL 79 3 mX11_stood ∧ (Cond.instanceMethod (mY mX11_stood) ∈ gtb ∧ Cond.selects (mY mX11_stood).cls (mY mX11_stood) (mY mX11_stood) ∈ gtb) := ⟨⟨w_1002, w_98, w_999, ⟨by decide, by decide, by decide +kernel⟩, by decide +kernel⟩, ⟨w_1000, w_1001⟩⟩
theorem lk_L_83 : LkB RL 83 3 mX12_stood ∧ (Cond.instanceMethod (mY mX12_stood) ∈ gtb ∧ Cond.selects (mY mX12_stood).cls (mY mX12_stood) (mY mX12_stood) ∈ gtb) := ⟨⟨w_1680, w_111, w_1677, ⟨by decide, by decide, by decide +kernel⟩, by decide +kernel⟩, ⟨w_1678, w_1679⟩⟩
theorem lk_L_84 : LkB RL 84 2 mX11_late ∧ (Cond.instanceMethod (mY mX11_late) ∈ gtb ∧ Cond.selects (mY mX11_late).cls (mY mX11_late) (mY mX11_late) ∈ gtb) := ⟨⟨w_1017, w_98, w_1014, ⟨by decide, by decide, by decide +kernel⟩, by decide +kernel⟩, ⟨w_1015, w_1016⟩⟩
theorem lk_L_87 : LkB RL 87 2 mX12_late ∧ (Cond.instanceMethod (mY mX12_late) ∈ gtb ∧ Cond.selects (mY mX12_late).cls (mY mX12_late) (mY mX12_late) ∈ gtb) := ⟨⟨w_1696, w_111, w_1693, ⟨by decide, by decide, by decide +kernel⟩, by decide +kernel⟩, ⟨w_1694, w_1695⟩⟩
theorem lk_L_88 : LkB RL 88 5 mX11_couples ∧ (Cond.instanceMethod (mY mX11_couples) ∈ gtb ∧ Cond.selects (mY mX11_couples).cls (mY mX11_couples) (mY mX11_couples) ∈ gtb) := ⟨⟨w_1030, w_98, w_1027, ⟨by decide, by decide, by decide +kernel⟩, by decide +kernel⟩, ⟨w_1028, w_1029⟩⟩
theorem lk_L_92 : LkB RL 92 5 mX12_couples ∧ (Cond.instanceMethod (mY mX12_couples) ∈ gtb ∧ Cond.selects (mY mX12_couples).cls (mY mX12_couples) (mY mX12_couples) ∈ gtb) := ⟨⟨w_1704, w_111, w_1701, ⟨by decide, by decide, by decide +kernel⟩, by decide +kernel⟩, ⟨w_1702, w_1703⟩⟩
theorem lk_L_93 : LkB RL 93 2 mX11_weight ∧ (Cond.instanceMethod (mY mX11_weight) ∈ gtb ∧ Cond.selects (mY mX11_weight).cls (mY mX11_weight) (mY mX11_weight) ∈ gtb) := ⟨⟨w_1049, w_98, w_1046, ⟨by decide, by decide, by decide +kernel⟩, by decide +kernel⟩, ⟨w_1047, w_1048⟩⟩
theorem lk_L_97 : LkB RL 97 2 mX12_weight ∧ (Cond.instanceMethod (mY mX12_weight) ∈ gtb ∧ Cond.selects (mY mX12_weight).cls (mY mX12_weight) (mY mX12_weight) ∈ gtb) := ⟨⟨w_1716, w_111, w_1713, ⟨by decide, by decide, by decide +kernel⟩, by decide +kernel⟩, ⟨w_1714, w_1715⟩⟩
theorem lk_L_98 : LkB RL 98 2 mX11_likely ∧ (Cond.instanceMethod (mY mX11_likely) ∈ gtb ∧ Cond.selects (mY mX11_likely).cls (mY mX11_likely) (mY mX11_likely) ∈ gtb) := ⟨⟨w_1057, w_98, w_1054, ⟨by decide, by decide, by decide +kernel⟩, by decide +kernel⟩, ⟨w_1055, w_1056⟩⟩
theorem lk_L_102 : LkB RL 102 2 mX12_likely ∧ (Cond.instanceMethod (mY mX12_likely) ∈ gtb ∧ Cond.selects (mY mX12_likely).cls (mY mX12_likely) (mY mX12_likely) ∈ gtb) := ⟨⟨w_1720, w_111, w_1717, ⟨by decide, by decide, by decide +kernel⟩, by decide +kernel⟩, ⟨w_1718, w_1719⟩⟩
theorem lk_L_103 : LkB RL 103 3 mX11_look ∧ (Cond.instanceMethod (mY mX11_look) ∈ gtb ∧ Cond.selects (mY mX11_look).cls (mY mX11_look) (mY mX11_look) ∈ gtb) := ⟨⟨w_1066, w_98, w_1063, ⟨by decide, by decide, by decide +kernel⟩, by decide +kernel⟩, ⟨w_1064, w_1065⟩⟩
theorem lk_L_107 : LkB RL 107 3 mX12_look ∧ (Cond.instanceMethod (mY mX12_look) ∈ gtb ∧ Cond.selects (mY mX12_look).cls (mY mX12_look) (mY mX12_look) ∈ gtb) := ⟨⟨w_1724, w_111, w_1721, ⟨by decide, by decide, by decide +kernel⟩, by decide +kernel⟩, ⟨w_1722, w_1723⟩⟩
theorem lk_L_108 : LkB RL 108 1 mX11_next ∧ (Cond.instanceMethod (mY mX11_next) ∈ gtb ∧ Cond.selects (mY mX11_next).cls (mY mX11_next) (mY mX11_next) ∈ gtb) := ⟨⟨w_1109, w_98, w_1106, ⟨by decide, by decide, by decide +kernel⟩, by decide +kernel⟩, ⟨w_1107, w_1108⟩⟩
theorem lk_L_111 : LkB RL 111 1 mX12_next_ ∧ (Cond.instanceMethod (mY mX12_next_) ∈ gtb ∧ Cond.selects (mY mX12_next_).cls (mY mX12_next_) (mY mX12_next_) ∈ gtb) := ⟨⟨w_1732, w_111, w_1729, ⟨by decide, by decide, by decide +kernel⟩, by decide +kernel⟩, ⟨w_1730, w_1731⟩⟩
theorem lk_L_112 : LkB RL 112 2 mX11_cloud ∧ (Cond.instanceMethod (mY mX11_cloud) ∈ gtb ∧ Cond.selects (mY mX11_cloud).cls (mY mX11_cloud) (mY mX11_cloud) ∈ gtb) := ⟨⟨w_1122, w_98, w_1119, ⟨by decide, by decide, by decide +kernel⟩, by decide +kernel⟩, ⟨w_1120, w_1121⟩⟩
theorem lk_L_115 : LkB RL 115 2 mX12_cloud ∧ (Cond.instanceMethod (mY mX12_cloud) ∈ gtb ∧ Cond.selects (mY mX12_cloud).cls (mY mX12_cloud) (mY mX12_cloud) ∈ gtb) := ⟨⟨w_1740, w_111, w_1737, ⟨by decide, by decide, by decide +kernel⟩, by decide +kernel⟩, ⟨w_1738, w_1739⟩⟩
theorem lk_L_116 : LkB RL 116 0 mX11_image ∧ (Cond.instanceMethod (mY mX11_image) ∈ gtb ∧ Cond.selects (mY mX11_image).cls (mY mX11_image) (mY mX11_image) ∈ gtb) := ⟨⟨w_1157, w_98, w_1154, ⟨by decide, by decide, by decide +kernel⟩, by decide +kernel⟩, ⟨w_1155, w_1156⟩⟩
theorem lk_L_119 : LkB RL 119 0 mX12_image ∧ (Cond.instanceMethod (mY mX12_image) ∈ gtb ∧ Cond.selects (mY mX12_image).cls (mY mX12_image) (mY mX12_image) ∈ gtb) := ⟨⟨w_1752, w_111, w_1749, ⟨by decide, by decide, by decide +kernel⟩, by decide +kernel⟩, ⟨w_1750, w_1751⟩⟩
theorem lk_L_120 : LkB RL 120 1 mX11_back ∧ (Cond.instanceMethod (mY mX11_back) ∈ gtb ∧ Cond.selects (mY mX11_back).cls (mY mX11_back) (mY mX11_back) ∈ gtb) := ⟨⟨w_1166, w_98, w_1163, ⟨by decide, by decide, by decide +kernel⟩, by decide +kernel⟩, ⟨w_1164, w_1165⟩⟩
theorem lk_L_124 : LkB RL 124 1 mX12_back ∧ (Cond.instanceMethod (mY mX12_back) ∈ gtb ∧ Cond.selects (mY mX12_back).cls (mY mX12_back) (mY mX12_back) ∈ gtb) := ⟨⟨w_1760, w_111, w_1757, ⟨by decide, by decide, by decide +kernel⟩, by decide +kernel⟩, ⟨w_1758, w_1759⟩⟩
theorem lk_L_125 : LkB RL 125 1 mX11_count ∧ (Cond.instanceMethod (mY mX11_count) ∈ gtb ∧ Cond.selects (mY mX11_count).cls (mY mX11_count) (mY mX11_count) ∈ gtb) := ⟨⟨w_1170, w_98, w_1167, ⟨by decide, by decide, by decide +kernel⟩, by decide +kernel⟩, ⟨w_1168, w_1169⟩⟩
theorem lk_L_128 : LkB RL 128 1 mX12_count ∧ (Cond.instanceMethod (mY mX12_count) ∈ gtb ∧ Cond.selects (mY mX12_count).cls (mY mX12_count) (mY mX12_count) ∈ gtb) := ⟨⟨w_1764, w_111, w_1761, ⟨by decide, by decide, by decide +kernel⟩, by decide +kernel⟩, ⟨w_1762, w_1763⟩⟩
abbrev mLw : MD := (yL_law, code, 4, ret, 14)
theorem sl_NN : sl NN ≤ 7302250 := by decide +kernel
theorem cv_ints {base : Nat} {ro : Nat → Nat} (As : List Int32) : (As.map Value.int).map (cv base ro) = As.map Value.int := by
  rw [List.map_map]; exact List.map_congr_left (fun _ _ => rfl)
/-- what the law's walk stands on -/
def LwC (p : Program) (s : State) (m : MethodId) (meth : Method) (c : Code) (b L : Nat) (xs : Nat → Int32) (D : va_G) (cA : Nat → ClassId) (ro : Nat → Nat) : Prop :=
  lw_At p s m meth c b L xs ∧ va_K D vwCl (tysE cA) s ∧ ROk s.heap.size ro s s.heap
section NH
variable {p : Program} {l : Launch} {e : Env} {s : State} {m : MethodId} {below : List Frame} {meth : Method} {c : Code} {b L : Nat} {xs : Nat → Int32} {D : va_G} {cA : Nat → ClassId} {ro : Nat → Nat} {H : Heap} {locs : List Loc} {Z : State → Prop} {pc : Nat} {ls : Array Slot} {st st0 : List Value} {gi : Gi} {gl : Gl} {κ : Kp}
theorem LwC.hx (X : LwC p s m meth c b L xs D cA ro) : p.tables.exec = Jvm.exec := X.1.1
theorem LwC.hb (X : LwC p s m meth c b L xs D cA ro) : c.code = code := X.1.2.1
theorem LwC.hml (X : LwC p s m meth c b L xs D cA ro) : c.maxLocals = 4 := X.1.2.2.2.1
theorem LwC.own (X : LwC p s m meth c b L xs D cA ro) : s.vm.findClass RL = some m.cls := X.1.2.2.2.2.1
theorem LwC.hts (X : LwC p s m meth c b L xs D cA ro) : ∀ w ∈ gtb, w.before #[Value.ref b] s = true := fun w h => X.1.2.2.2.2.2.1 w (gtb_lw h)
/-- a fresh object -/
theorem lw_new {a ci ix : Nat} {C0 : String} {T : u_T} {N : Nat} (X : LwC p s m meth c b L xs D cA ro) (L0 : List Nat) (hd : decode code pc = .ok (.new ix, 3)) (hκ : κ.1 = a) (ha : a < NN) (hk : sK a = ci) (hci : ci < 100) (hN : sN a = N) (hc : vwCl[ci]? = some (C0, T, N)) (hu : ∀ w ∈ u_ws C0 T N, w ∈ gtb) (hty : ∀ k, k < N → parseFieldDescriptor (T k).2.2.1 = some (tyC ci k)) (hL : ∀ k, k < N → dvOk (tyC ci k) (L0.contains k) = true) (hw : Cond.classLink RL ix C0 ∈ gtb ∧ Cond.instantiable C0 N ∈ gtb ∧ Cond.initialized C0 ∈ gtb)
    (hW : Wd s.heap.size D cA κ gi gl H) (hS : va_S (Ab s.heap.size) s.heap H locs)
    (kk : ∀ g l' H1, (∀ b, b ≠ a → g b = gi b) → (∀ b, b ≠ a → l' b = gl b) → (∀ j, g a j = 0) → Wd s.heap.size D cA (a + 1, nS κ.2 a L0) g l' H1 → va_S (Ab s.heap.size) s.heap H1 locs → W p l e room_1 s m #[Value.ref b] below meth c H1 locs (a + 1) (sl (a + 1)) Z (F0 m (pc + 3) ls (.ref (s.heap.size + a) :: st))) : W p l e room_1 s m #[Value.ref b] below meth c H locs a (sl a) Z (F0 m pc ls st) := by
  subst hκ
  have hsz := hW.2.1 ha
  have hKn := X.2.1.1 ci _ hc
  have hsl : sl (κ.1 + 1) ≤ sl NN := sl_le ha
  have hsl2 : sl (κ.1 + 1) = sl κ.1 + N := by rw [← hN]; rfl
  have hs9 := sl_NN
  have h377 : NN ≤ 600000 := by decide +kernel
  have h := kk (uI gi κ.1 (fun _ => 0)) (uL gl κ.1 (fun _ => 0))
  refine W.newcK X.hx X.hb X.own (X.hts _ hw.1) (X.hts _ hw.2.1) (X.hts _ hw.2.2) rfl hd (show κ.1 + 1 ≤ 600000 by omega) (show sl κ.1 + N ≤ 7302250 by omega) hKn.2.1 hsz fun H1 kC hkC e1 z1 o1 => ?_
  have hat := u_born (tyC ci) X.hts hu hKn hkC e1 hty
  have hW1 : Wd s.heap.size D cA (κ.1 + 1, nS κ.2 κ.1 L0) (uI gi κ.1 (fun _ => 0)) (uL gl κ.1 (fun _ => 0)) H1 := by
    refine hW.push ha rfl ?_ (fun b hb => mkE_n (uI_n hb) (uL_n hb) (nS_n hb)) (by rw [z1, hsz]) (by rw [hsz]; exact o1)
    rw [mkE_o hk hci, hN]
    refine ⟨_, hc, hat.to (fun j hj => ?_)⟩
    unfold vp_V
    rw [List.getD_eq_getElem?_getD, fs_at hj]
    exact dv_fv (by show dvOk (tyC ci j) (nS κ.2 κ.1 L0 κ.1 j) = true; rw [nS_s]; exact hL j hj) (by rw [uI_s]) (by rw [uL_s])
  rw [← hsl2]
  exact h H1 (fun b hb => uI_n hb) (fun b hb => uL_n hb) (fun j => by rw [uI_s]) hW1 ⟨Nat.le_trans hS.1 (by rw [z1, hsz]; omega), fun x h1 h2 => (o1 x (by rw [← hsz]; exact Nat.lt_of_lt_of_le h1 hS.1)).trans (hS.2.1 x h1 h2), hS.2.2⟩
/-- a constructor -/
theorem lw_init {N : MD} {ix nE nY a : Nat} (X : LwC p s m meth c b L xs D cA ro) (hd : decode code pc = .ok (.invokespecial ix, 3)) (hlk : LkB RL ix 0 N) (hlk2 : Cond.instanceMethod (mY N) ∈ gtb ∧ (mY N).name = "<init>") (ha : a < NN) (hlev : mV N + 1 ≤ 14 ∧ mL N ≤ 15) (hlen : (eLs [.ref a]).length ≤ mL N) (hr : mR N = none) (hroom : (st.map fun v => v.category).sum ≤ 8) (hκ : κ.1 = nE) (hx : nE ≤ nY ∧ nY ≤ NN) (hl : ls.size = 4)
    (hW : Wd s.heap.size D cA κ gi gl H) (hS : va_S (Ab s.heap.size) s.heap H locs) {Q : Value → Kp → Gi → Gl → Prop}
    (k : PAt N nE nY κ 0 (ent (mL N) [.ref a]) [] gi gl Q)
    (cont : ∀ v κ' g l' H1 locs1, Q v κ' g l' → κ'.1 = nY → Wd s.heap.size D cA κ' g l' H1 → va_S (Ab s.heap.size) s.heap H1 locs1 → W p l e room_1 s m #[Value.ref b] below meth c H1 locs1 nY (sl nY) Z (F0 m (pc + 3) ls st)) : W p l e room_1 s m #[Value.ref b] below meth c H locs nE (sl nE) Z (F0 m pc ls (.ref (s.heap.size + a) :: st)) := by
  obtain ⟨h1, h2, h3, h4, h5⟩ := hlk
  have hts := X.hts
  have hK0 := X.2.1
  have hRO0 := X.2.2
  have ecv : cv s.heap.size ro (.ref a) = .ref (s.heap.size + a) := cv_low ha
  have eas : ([.ref a] : List Value).map (cv s.heap.size ro) = .ref (s.heap.size + a) :: ([] : List Value) := by rw [List.map_cons, ecv]; rfl
  have hM := met_V (l := l) (N := N) (nE := nE) (nX := nY) (As := [.ref a]) (base := s.heap.size) (D := D) (cA := cA) (ro := ro) h5 hκ hlen hr k
  rw [eas] at hM
  have ews : wsN N = Cond.code (mY N) (mC N) (mL N) none :: gtb := by show (Cond.code (mY N) (mC N) (mL N) (mR N) :: gtb) = _; rw [hr]
  rw [ews] at hM
  have hg := ws_good h1
  rw [ews] at hg
  have s1 := sl_le hx.1
  have s2 := sl_le hx.2
  have s3 := sl_NN
  have h377 : NN ≤ 600000 := by decide +kernel
  have hrm : (rmN N nE nY).frames + 1 ≤ room_1.frames ∧ 8 + (mL N + 11) + (rmN N nE nY).locals ≤ room_1.locals := by
    show mV N + 1 ≤ 14 ∧ 8 + (mL N + 11) + 34 * mV N ≤ 528
    omega
  have cb : CallB room_1 s #[Value.ref b] RL ix (mY N) (mC N) (mL N) none (Cond.code (mY N) (mC N) (mL N) none :: gtb) (rmN N nE nY) (nY - nE) (sl nY - sl nE) 0 := callB_of 0 hts hg rfl rfl rfl (hts _ h2) (hts _ h3) h4 hrm
  refine va_callv (va_runI (As := []) (rest := st) ⟨X.hx, X.hb, X.hml, X.own, hts⟩ hM ⟨cb, hlk2.2, hts _ hlk2.1⟩ ⟨Bst.blind, fun U hU hW2 => ⟨rfl, by rw [hU]; exact hW, va_K.moved hW2.alike hK0, by rw [hU]; exact ROk.warm hW2 hS hRO0, by rw [hU]; exact hS.1⟩⟩ rfl rfl hl rfl (lv_room hroom) hd ⟨show nE + (nY - nE) ≤ 600000 by omega, show sl nE + (sl nY - sl nE) ≤ 7302250 by omega⟩) hS (fun q _ h => h) (fun q h => h) (fun u t H1 locs1 ht hvm hpost hB hz hk hS1 => ?_)
  obtain ⟨κ2, gi2, gl2⟩ := u
  obtain ⟨hQ, hn2⟩ := hpost
  have hB : Wd s.heap.size D cA κ2 gi2 gl2 H1 := by rw [← ht]; exact hB
  rw [show nE + (nY - nE) = nY by omega, show sl nE + (sl nY - sl nE) = sl nY by omega]
  exact cont _ κ2 gi2 gl2 H1 locs1 hQ hn2 hB hS1
theorem lw_rm {N : MD} (h : mV N + 1 ≤ 14 ∧ mL N ≤ 15) : (rmN N NN NN).frames + 1 ≤ room_1.frames ∧ 8 + (mL N + 11) + (rmN N NN NN).locals ≤ room_1.locals := by
  show mV N + 1 ≤ 14 ∧ 8 + (mL N + 11) + 34 * mV N ≤ 528
  omega
/-- a call that answers a number -/
theorem lw_calI {N : MD} {ix n bb ci N0 : Nat} {T : u_T} {As : List Int32} (X : LwC p s m meth c b L xs D cA ro) (hd : decode code pc = .ok (.invokevirtual ix, 3)) (hlk : LkB RL ix n N) (hlk2 : Cond.instanceMethod (mY N) ∈ gtb ∧ Cond.selects (mY N).cls (mY N) (mY N) ∈ gtb) (hb : bb < NN) (hbk : sK bb = ci) (hci : ci < 100) (hc : vwCl[ci]? = some ((mY N).cls, T, N0)) (hlev : mV N + 1 ≤ 14 ∧ mL N ≤ 15) (hn : As.length = n) (hlen : (eLs (.ref bb :: As.map Value.int)).length ≤ mL N) (hr : rI (mR N) = true) (hroom : (st.map fun v => v.category).sum ≤ 8) (hl : ls.size = 4) (hst : st0 = (As.map Value.int).reverse ++ .ref (s.heap.size + bb) :: st)
    (hW : Wd s.heap.size D cA κF gi gl H) (hS : va_S (Ab s.heap.size) s.heap H locs) {Q : Int32 → Gi → Gl → Prop}
    (k : PAt N NN NN κF 0 (ent (mL N) (.ref bb :: As.map Value.int)) [] gi gl (RiQ Q))
    (cont : ∀ r g l' H1 locs1, Q r g l' → Wd s.heap.size D cA κF g l' H1 → va_S (Ab s.heap.size) s.heap H1 locs1 → W p l e room_1 s m #[Value.ref b] below meth c H1 locs1 NN (sl NN) Z (F0 m (pc + 3) ls (.int r :: st))) : W p l e room_1 s m #[Value.ref b] below meth c H locs NN (sl NN) Z (F0 m pc ls st0) := by
  obtain ⟨h1, h2, h3, h4, h5⟩ := hlk
  have hts := X.hts
  have hK0 := X.2.1
  have hRO0 := X.2.2
  subst hst
  have ecv : cv s.heap.size ro (.ref bb) = .ref (s.heap.size + bb) := cv_low hb
  have eas : (.ref bb :: As.map Value.int).map (cv s.heap.size ro) = .ref (s.heap.size + bb) :: As.map Value.int := by rw [List.map_cons, ecv, cv_ints]
  have hM := met_I (l := l) (N := N) (nE := NN) (nX := NN) (As := (.ref bb :: As.map Value.int)) (base := s.heap.size) (D := D) (cA := cA) (ro := ro) h5 rfl hlen hr k
  rw [eas] at hM
  refine va_calli (va_runV (As := As.map Value.int) (rest := st) (C := (mY N).cls) ⟨X.hx, X.hb, X.hml, X.own, hts⟩ hM ⟨callB_of n hts (ws_good h1) rfl rfl rfl (hts _ h2) (hts _ h3) h4 (lw_rm hlev), hts _ hlk2.1, hts _ hlk2.2⟩ ⟨Bst.blind, va_recv hK0 hW.1 hc (q0 := bb) (by rw [we_get hb, mkE_o hbk hci]), fun U hU hW2 => ⟨rfl, by rw [hU]; exact hW, va_K.moved hW2.alike hK0, by rw [hU]; exact ROk.warm hW2 hS hRO0, by rw [hU]; exact hS.1⟩⟩ rfl (by rw [List.length_map]; exact hn) hl rfl (lv_room hroom) hd ⟨show NN + (NN - NN) ≤ 600000 by decide +kernel, show sl NN + (sl NN - sl NN) ≤ 7302250 by decide +kernel⟩) hS (fun q _ h => h) (fun q h => h) (fun r u t H1 locs1 ht hvm hpost hB hz hk hS1 => ?_)
  obtain ⟨κ2, gi2, gl2⟩ := u
  obtain ⟨hQ, -⟩ := hpost
  obtain ⟨hκ, r', hr', hQ⟩ : κ2 = κF ∧ ∃ r' : Int32, Value.int r = .int r' ∧ Q r' gi2 gl2 := hQ
  cases hr'
  subst hκ
  have hB : Wd s.heap.size D cA κF gi2 gl2 H1 := by rw [← ht]; exact hB
  rw [Nat.sub_self, Nat.sub_self, Nat.add_zero, Nat.add_zero]
  exact cont r gi2 gl2 H1 locs1 hQ hB hS1
/-- a call that answers a long number -/
theorem lw_calL {N : MD} {ix n bb ci N0 : Nat} {T : u_T} {As : List Int32} (X : LwC p s m meth c b L xs D cA ro) (hd : decode code pc = .ok (.invokevirtual ix, 3)) (hlk : LkB RL ix n N) (hlk2 : Cond.instanceMethod (mY N) ∈ gtb ∧ Cond.selects (mY N).cls (mY N) (mY N) ∈ gtb) (hb : bb < NN) (hbk : sK bb = ci) (hci : ci < 100) (hc : vwCl[ci]? = some ((mY N).cls, T, N0)) (hlev : mV N + 1 ≤ 14 ∧ mL N ≤ 15) (hn : As.length = n) (hlen : (eLs (.ref bb :: As.map Value.int)).length ≤ mL N) (hr : mR N = some .long) (hroom : (st.map fun v => v.category).sum ≤ 8) (hl : ls.size = 4) (hst : st0 = (As.map Value.int).reverse ++ .ref (s.heap.size + bb) :: st)
    (hW : Wd s.heap.size D cA κF gi gl H) (hS : va_S (Ab s.heap.size) s.heap H locs) {Q : Int64 → Gi → Gl → Prop}
    (k : PAt N NN NN κF 0 (ent (mL N) (.ref bb :: As.map Value.int)) [] gi gl (RlQ Q))
    (cont : ∀ r g l' H1 locs1, Q r g l' → Wd s.heap.size D cA κF g l' H1 → va_S (Ab s.heap.size) s.heap H1 locs1 → W p l e room_1 s m #[Value.ref b] below meth c H1 locs1 NN (sl NN) Z (F0 m (pc + 3) ls (.long r :: st))) : W p l e room_1 s m #[Value.ref b] below meth c H locs NN (sl NN) Z (F0 m pc ls st0) := by
  obtain ⟨h1, h2, h3, h4, h5⟩ := hlk
  have hts := X.hts
  have hK0 := X.2.1
  have hRO0 := X.2.2
  subst hst
  have ecv : cv s.heap.size ro (.ref bb) = .ref (s.heap.size + bb) := cv_low hb
  have eas : (.ref bb :: As.map Value.int).map (cv s.heap.size ro) = .ref (s.heap.size + bb) :: As.map Value.int := by rw [List.map_cons, ecv, cv_ints]
  have hM := met_L (l := l) (N := N) (nE := NN) (nX := NN) (As := (.ref bb :: As.map Value.int)) (base := s.heap.size) (D := D) (cA := cA) (ro := ro) h5 rfl hlen hr k
  rw [eas] at hM
  refine va_calll (va_runV (As := As.map Value.int) (rest := st) (C := (mY N).cls) ⟨X.hx, X.hb, X.hml, X.own, hts⟩ hM ⟨callB_of n hts (ws_good h1) rfl rfl rfl (hts _ h2) (hts _ h3) h4 (lw_rm hlev), hts _ hlk2.1, hts _ hlk2.2⟩ ⟨Bst.blind, va_recv hK0 hW.1 hc (q0 := bb) (by rw [we_get hb, mkE_o hbk hci]), fun U hU hW2 => ⟨rfl, by rw [hU]; exact hW, va_K.moved hW2.alike hK0, by rw [hU]; exact ROk.warm hW2 hS hRO0, by rw [hU]; exact hS.1⟩⟩ rfl (by rw [List.length_map]; exact hn) hl rfl (lv_room hroom) hd ⟨show NN + (NN - NN) ≤ 600000 by decide +kernel, show sl NN + (sl NN - sl NN) ≤ 7302250 by decide +kernel⟩) hS (fun q _ h => h) (fun q h => h) (fun r u t H1 locs1 ht hvm hpost hB hz hk hS1 => ?_)
  obtain ⟨κ2, gi2, gl2⟩ := u
  obtain ⟨hQ, -⟩ := hpost
  obtain ⟨hκ, r', hr', hQ⟩ : κ2 = κF ∧ ∃ r' : Int64, Value.long r = .long r' ∧ Q r' gi2 gl2 := hQ
  cases hr'
  subst hκ
  have hB : Wd s.heap.size D cA κF gi2 gl2 H1 := by rw [← ht]; exact hB
  rw [Nat.sub_self, Nat.sub_self, Nat.add_zero, Nat.add_zero]
  exact cont r gi2 gl2 H1 locs1 hQ hB hS1
/-- the law's locals in its loop -/
def LwL (s : State) (b i : Nat) (ls : Array Slot) : Prop := lv_has ls 4 [(3, .int (nI i)), (0, .ref b), (1, .ref (s.heap.size + 0)), (2, .ref (s.heap.size + 329))]
/-- a number of the script -/
theorem lw_arg {i k : Nat} {n : Int} {cells slots : Nat} (X : LwC p s m meth c b L xs D cA ro) (hl : LwL s b i ls) (hS : va_S (Ab s.heap.size) s.heap H locs) (hk : Int32.ofInt n = nI k) (hik : i + k < L) (hL : L ≤ 3072) (d0 : decode code pc = .ok (.aload_n 0, 1)) (d1 : decode code (pc + 1) = .ok (.iload_n 3, 1)) (d2 : decode code (pc + 2) = .ok (.iconst n, 1)) (d3 : decode code (pc + 3) = .ok (.iadd, 1)) (d4 : decode code (pc + 4) = .ok (.iaload, 1))
    (kk : W p l e room_1 s m #[Value.ref b] below meth c H locs cells slots Z (F0 m (pc + 5) ls (.int (xs (i + k)) :: st))) : W p l e room_1 s m #[Value.ref b] below meth c H locs cells slots Z (F0 m pc ls st) := by
  have hbl := X.1.2.2.2.2.2.2.2.1
  have hX := X.1.2.2.2.2.2.2.1
  refine lv_aload_n X.hx X.hb d0 rfl (lv_at hl 1 rfl) ?_
  refine lv_iload_n X.hx X.hb d1 rfl (lv_at hl 0 rfl) ?_
  refine lv_iconst X.hx X.hb d2 hk ?_
  refine lv_iadd X.hx X.hb d3 ?_
  rw [nI_add]
  refine va_sld X.hx X.hb hX hbl (fun h => Nat.not_le.mpr hbl h) hS (vp_nI hik (by omega)) d4 ?_
  rw [nI_cl (by omega)]
  exact kk
end NH
