theorem wlL_13 : (Cond.methodLink RL 13 yX10_feed) ∈ ea_tbl := ea_inT 517 (by decide +kernel) rfl
theorem wvL_X10_feed : (Cond.instanceMethod yX10_feed) ∈ ea_tbl := ea_inT 518 (by decide +kernel) rfl
theorem wzL_X10_feed : (Cond.selects RX10 yX10_feed yX10_feed) ∈ ea_tbl := ea_inT 519 (by decide +kernel) rfl
theorem wlL_17 : (Cond.methodLink RL 17 yX11_feed) ∈ ea_tbl := ea_inT 1341 (by decide +kernel) rfl
theorem wvL_X11_feed : (Cond.instanceMethod yX11_feed) ∈ ea_tbl := ea_inT 1342 (by decide +kernel) rfl
theorem wzL_X11_feed : (Cond.selects RX11 yX11_feed yX11_feed) ∈ ea_tbl := ea_inT 1343 (by decide +kernel) rfl
theorem wlL_18 : (Cond.methodLink RL 18 yX10_end) ∈ ea_tbl := ea_inT 525 (by decide +kernel) rfl
theorem wvL_X10_end : (Cond.instanceMethod yX10_end) ∈ ea_tbl := ea_inT 526 (by decide +kernel) rfl
theorem wzL_X10_end : (Cond.selects RX10 yX10_end yX10_end) ∈ ea_tbl := ea_inT 527 (by decide +kernel) rfl
theorem wlL_22 : (Cond.methodLink RL 22 yX11_end) ∈ ea_tbl := ea_inT 1345 (by decide +kernel) rfl
theorem wvL_X11_end : (Cond.instanceMethod yX11_end) ∈ ea_tbl := ea_inT 1346 (by decide +kernel) rfl
theorem wzL_X11_end : (Cond.selects RX11 yX11_end yX11_end) ∈ ea_tbl := ea_inT 1347 (by decide +kernel) rfl
theorem wlL_23 : (Cond.methodLink RL 23 yX10_cloth) ∈ ea_tbl := ea_inT 529 (by decide +kernel) rfl
theorem wvL_X10_cloth : (Cond.instanceMethod yX10_cloth) ∈ ea_tbl := ea_inT 530 (by decide +kernel) rfl
theorem wzL_X10_cloth : (Cond.selects RX10 yX10_cloth yX10_cloth) ∈ ea_tbl := ea_inT 531 (by decide +kernel) rfl
theorem wlL_27 : (Cond.methodLink RL 27 yX11_cloth) ∈ ea_tbl := ea_inT 1353 (by decide +kernel) rfl
theorem wvL_X11_cloth : (Cond.instanceMethod yX11_cloth) ∈ ea_tbl := ea_inT 1354 (by decide +kernel) rfl
theorem wzL_X11_cloth : (Cond.selects RX11 yX11_cloth yX11_cloth) ∈ ea_tbl := ea_inT 1355 (by decide +kernel) rfl
theorem wlL_28 : (Cond.methodLink RL 28 yX10_fault) ∈ ea_tbl := ea_inT 704 (by decide +kernel) rfl
theorem wvL_X10_fault : (Cond.instanceMethod yX10_fault) ∈ ea_tbl := ea_inT 705 (by decide +kernel) rfl
theorem wzL_X10_fault : (Cond.selects RX10 yX10_fault yX10_fault) ∈ ea_tbl := ea_inT 706 (by decide +kernel) rfl
theorem wlL_31 : (Cond.methodLink RL 31 yX11_fault) ∈ ea_tbl := ea_inT 1349 (by decide +kernel) rfl
theorem wvL_X11_fault : (Cond.instanceMethod yX11_fault) ∈ ea_tbl := ea_inT 1350 (by decide +kernel) rfl
theorem wzL_X11_fault : (Cond.selects RX11 yX11_fault yX11_fault) ∈ ea_tbl := ea_inT 1351 (by decide +kernel) rfl
theorem wlL_32 : (Cond.methodLink RL 32 yX10_told) ∈ ea_tbl := ea_inT 708 (by decide +kernel) rfl
theorem wvL_X10_told : (Cond.instanceMethod yX10_told) ∈ ea_tbl := ea_inT 709 (by decide +kernel) rfl
theorem wzL_X10_told : (Cond.selects RX10 yX10_told yX10_told) ∈ ea_tbl := ea_inT 710 (by decide +kernel) rfl
theorem wlL_35 : (Cond.methodLink RL 35 yX11_told) ∈ ea_tbl := ea_inT 1415 (by decide +kernel) rfl
theorem wvL_X11_told : (Cond.instanceMethod yX11_told) ∈ ea_tbl := ea_inT 1416 (by decide +kernel) rfl
theorem wzL_X11_told : (Cond.selects RX11 yX11_told yX11_told) ∈ ea_tbl := ea_inT 1417 (by decide +kernel) rfl
theorem wlL_36 : (Cond.methodLink RL 36 yX10_strength) ∈ ea_tbl := ea_inT 722 (by decide +kernel) rfl
theorem wvL_X10_strength : (Cond.instanceMethod yX10_strength) ∈ ea_tbl := ea_inT 723 (by decide +kernel) rfl
theorem wzL_X10_strength : (Cond.selects RX10 yX10_strength yX10_strength) ∈ ea_tbl := ea_inT 724 (by decide +kernel) rfl
theorem wlL_40 : (Cond.methodLink RL 40 yX11_strength) ∈ ea_tbl := ea_inT 1423 (by decide +kernel) rfl
theorem wvL_X11_strength : (Cond.instanceMethod yX11_strength) ∈ ea_tbl := ea_inT 1424 (by decide +kernel) rfl
theorem wzL_X11_strength : (Cond.selects RX11 yX11_strength yX11_strength) ∈ ea_tbl := ea_inT 1425 (by decide +kernel) rfl
theorem wlL_41 : (Cond.methodLink RL 41 yX10_hours) ∈ ea_tbl := ea_inT 734 (by decide +kernel) rfl
theorem wvL_X10_hours : (Cond.instanceMethod yX10_hours) ∈ ea_tbl := ea_inT 735 (by decide +kernel) rfl
theorem wzL_X10_hours : (Cond.selects RX10 yX10_hours yX10_hours) ∈ ea_tbl := ea_inT 736 (by decide +kernel) rfl
theorem wlL_45 : (Cond.methodLink RL 45 yX11_hours) ∈ ea_tbl := ea_inT 1442 (by decide +kernel) rfl
theorem wvL_X11_hours : (Cond.instanceMethod yX11_hours) ∈ ea_tbl := ea_inT 1443 (by decide +kernel) rfl
theorem wzL_X11_hours : (Cond.selects RX11 yX11_hours yX11_hours) ∈ ea_tbl := ea_inT 1444 (by decide +kernel) rfl
theorem wlL_46 : (Cond.methodLink RL 46 yX10_thread) ∈ ea_tbl := ea_inT 756 (by decide +kernel) rfl
theorem wvL_X10_thread : (Cond.instanceMethod yX10_thread) ∈ ea_tbl := ea_inT 757 (by decide +kernel) rfl
theorem wzL_X10_thread : (Cond.selects RX10 yX10_thread yX10_thread) ∈ ea_tbl := ea_inT 758 (by decide +kernel) rfl
theorem wlL_49 : (Cond.methodLink RL 49 yX11_thread) ∈ ea_tbl := ea_inT 1454 (by decide +kernel) rfl
theorem wvL_X11_thread : (Cond.instanceMethod yX11_thread) ∈ ea_tbl := ea_inT 1455 (by decide +kernel) rfl
theorem wzL_X11_thread : (Cond.selects RX11 yX11_thread yX11_thread) ∈ ea_tbl := ea_inT 1456 (by decide +kernel) rfl
theorem wlL_50 : (Cond.methodLink RL 50 yX10_colour) ∈ ea_tbl := ea_inT 767 (by decide +kernel) rfl
theorem wvL_X10_colour : (Cond.instanceMethod yX10_colour) ∈ ea_tbl := ea_inT 768 (by decide +kernel) rfl
theorem wzL_X10_colour : (Cond.selects RX10 yX10_colour yX10_colour) ∈ ea_tbl := ea_inT 769 (by decide +kernel) rfl
theorem wlL_54 : (Cond.methodLink RL 54 yX11_colour) ∈ ea_tbl := ea_inT 1458 (by decide +kernel) rfl
theorem wvL_X11_colour : (Cond.instanceMethod yX11_colour) ∈ ea_tbl := ea_inT 1459 (by decide +kernel) rfl
theorem wzL_X11_colour : (Cond.selects RX11 yX11_colour yX11_colour) ∈ ea_tbl := ea_inT 1460 (by decide +kernel) rfl
theorem wlL_55 : (Cond.methodLink RL 55 yX10_look) ∈ ea_tbl := ea_inT 792 (by decide +kernel) rfl
theorem wvL_X10_look : (Cond.instanceMethod yX10_look) ∈ ea_tbl := ea_inT 793 (by decide +kernel) rfl
theorem wzL_X10_look : (Cond.selects RX10 yX10_look yX10_look) ∈ ea_tbl := ea_inT 794 (by decide +kernel) rfl
theorem wlL_59 : (Cond.methodLink RL 59 yX11_look) ∈ ea_tbl := ea_inT 1477 (by decide +kernel) rfl
theorem wvL_X11_look : (Cond.instanceMethod yX11_look) ∈ ea_tbl := ea_inT 1478 (by decide +kernel) rfl
theorem wzL_X11_look : (Cond.selects RX11 yX11_look yX11_look) ∈ ea_tbl := ea_inT 1479 (by decide +kernel) rfl
theorem wlL_60 : (Cond.methodLink RL 60 yX10_gone) ∈ ea_tbl := ea_inT 822 (by decide +kernel) rfl
theorem wvL_X10_gone : (Cond.instanceMethod yX10_gone) ∈ ea_tbl := ea_inT 823 (by decide +kernel) rfl
theorem wzL_X10_gone : (Cond.selects RX10 yX10_gone yX10_gone) ∈ ea_tbl := ea_inT 824 (by decide +kernel) rfl
theorem wlL_63 : (Cond.methodLink RL 63 yX11_gone) ∈ ea_tbl := ea_inT 1500 (by decide +kernel) rfl
theorem wvL_X11_gone : (Cond.instanceMethod yX11_gone) ∈ ea_tbl := ea_inT 1501 (by decide +kernel) rfl
theorem wzL_X11_gone : (Cond.selects RX11 yX11_gone yX11_gone) ∈ ea_tbl := ea_inT 1502 (by decide +kernel) rfl
theorem wlL_64 : (Cond.methodLink RL 64 yX10_attempt) ∈ ea_tbl := ea_inT 826 (by decide +kernel) rfl
theorem wvL_X10_attempt : (Cond.instanceMethod yX10_attempt) ∈ ea_tbl := ea_inT 827 (by decide +kernel) rfl
theorem wzL_X10_attempt : (Cond.selects RX10 yX10_attempt yX10_attempt) ∈ ea_tbl := ea_inT 828 (by decide +kernel) rfl
theorem wlL_67 : (Cond.methodLink RL 67 yX11_attempt) ∈ ea_tbl := ea_inT 1504 (by decide +kernel) rfl
theorem wvL_X11_attempt : (Cond.instanceMethod yX11_attempt) ∈ ea_tbl := ea_inT 1505 (by decide +kernel) rfl
theorem wzL_X11_attempt : (Cond.selects RX11 yX11_attempt yX11_attempt) ∈ ea_tbl := ea_inT 1506 (by decide +kernel) rfl
theorem wlL_68 : (Cond.methodLink RL 68 yX10_right) ∈ ea_tbl := ea_inT 834 (by decide +kernel) rfl
theorem wvL_X10_right : (Cond.instanceMethod yX10_right) ∈ ea_tbl := ea_inT 835 (by decide +kernel) rfl
theorem wzL_X10_right : (Cond.selects RX10 yX10_right yX10_right) ∈ ea_tbl := ea_inT 836 (by decide +kernel) rfl
theorem wlL_71 : (Cond.methodLink RL 71 yX11_right) ∈ ea_tbl := ea_inT 1508 (by decide +kernel) rfl
theorem wvL_X11_right : (Cond.instanceMethod yX11_right) ∈ ea_tbl := ea_inT 1509 (by decide +kernel) rfl
theorem wzL_X11_right : (Cond.selects RX11 yX11_right yX11_right) ∈ ea_tbl := ea_inT 1510 (by decide +kernel) rfl
theorem wlL_72 : (Cond.methodLink RL 72 yX10_shows) ∈ ea_tbl := ea_inT 846 (by decide +kernel) rfl
theorem wvL_X10_shows : (Cond.instanceMethod yX10_shows) ∈ ea_tbl := ea_inT 847 (by decide +kernel) rfl
theorem wzL_X10_shows : (Cond.selects RX10 yX10_shows yX10_shows) ∈ ea_tbl := ea_inT 848 (by decide +kernel) rfl
theorem wlL_75 : (Cond.methodLink RL 75 yX11_shows) ∈ ea_tbl := ea_inT 1512 (by decide +kernel) rfl
theorem wvL_X11_shows : (Cond.instanceMethod yX11_shows) ∈ ea_tbl := ea_inT 1513 (by decide +kernel) rfl
theorem wzL_X11_shows : (Cond.selects RX11 yX11_shows yX11_shows) ∈ ea_tbl := ea_inT 1514 (by decide +kernel) rfl
theorem wlL_76 : (Cond.methodLink RL 76 yX10_keep) ∈ ea_tbl := ea_inT 861 (by decide +kernel) rfl
theorem wvL_X10_keep : (Cond.instanceMethod yX10_keep) ∈ ea_tbl := ea_inT 862 (by decide +kernel) rfl
theorem wzL_X10_keep : (Cond.selects RX10 yX10_keep yX10_keep) ∈ ea_tbl := ea_inT 863 (by decide +kernel) rfl
theorem wlL_79 : (Cond.methodLink RL 79 yX11_keep) ∈ ea_tbl := ea_inT 1523 (by decide +kernel) rfl
theorem wvL_X11_keep : (Cond.instanceMethod yX11_keep) ∈ ea_tbl := ea_inT 1524 (by decide +kernel) rfl
theorem wzL_X11_keep : (Cond.selects RX11 yX11_keep yX11_keep) ∈ ea_tbl := ea_inT 1525 (by decide +kernel) rfl
theorem wlL_80 : (Cond.methodLink RL 80 yX10_take) ∈ ea_tbl := ea_inT 872 (by decide +kernel) rfl
theorem wvL_X10_take : (Cond.instanceMethod yX10_take) ∈ ea_tbl := ea_inT 873 (by decide +kernel) rfl
theorem wzL_X10_take : (Cond.selects RX10 yX10_take yX10_take) ∈ ea_tbl := ea_inT 874 (by decide +kernel) rfl
theorem wlL_83 : (Cond.methodLink RL 83 yX11_take) ∈ ea_tbl := ea_inT 1530 (by decide +kernel) rfl
theorem wvL_X11_take : (Cond.instanceMethod yX11_take) ∈ ea_tbl := ea_inT 1531 (by decide +kernel) rfl
theorem wzL_X11_take : (Cond.selects RX11 yX11_take yX11_take) ∈ ea_tbl := ea_inT 1532 (by decide +kernel) rfl
theorem wlL_84 : (Cond.methodLink RL 84 yX10_fit) ∈ ea_tbl := ea_inT 876 (by decide +kernel) rfl
theorem wvL_X10_fit : (Cond.instanceMethod yX10_fit) ∈ ea_tbl := ea_inT 877 (by decide +kernel) rfl
theorem wzL_X10_fit : (Cond.selects RX10 yX10_fit yX10_fit) ∈ ea_tbl := ea_inT 878 (by decide +kernel) rfl
theorem wlL_87 : (Cond.methodLink RL 87 yX11_fit) ∈ ea_tbl := ea_inT 1534 (by decide +kernel) rfl
theorem wvL_X11_fit : (Cond.instanceMethod yX11_fit) ∈ ea_tbl := ea_inT 1535 (by decide +kernel) rfl
theorem wzL_X11_fit : (Cond.selects RX11 yX11_fit yX11_fit) ∈ ea_tbl := ea_inT 1536 (by decide +kernel) rfl
theorem wlL_88 : (Cond.methodLink RL 88 yX10_pair) ∈ ea_tbl := ea_inT 969 (by decide +kernel) rfl
theorem wvL_X10_pair : (Cond.instanceMethod yX10_pair) ∈ ea_tbl := ea_inT 970 (by decide +kernel) rfl
theorem wzL_X10_pair : (Cond.selects RX10 yX10_pair yX10_pair) ∈ ea_tbl := ea_inT 971 (by decide +kernel) rfl
theorem wlL_91 : (Cond.methodLink RL 91 yX11_pair) ∈ ea_tbl := ea_inT 1565 (by decide +kernel) rfl
theorem wvL_X11_pair : (Cond.instanceMethod yX11_pair) ∈ ea_tbl := ea_inT 1566 (by decide +kernel) rfl
theorem wzL_X11_pair : (Cond.selects RX11 yX11_pair yX11_pair) ∈ ea_tbl := ea_inT 1567 (by decide +kernel) rfl
theorem wlL_92 : (Cond.methodLink RL 92 yX10_was) ∈ ea_tbl := ea_inT 973 (by decide +kernel) rfl
theorem wvL_X10_was : (Cond.instanceMethod yX10_was) ∈ ea_tbl := ea_inT 974 (by decide +kernel) rfl
theorem wzL_X10_was : (Cond.selects RX10 yX10_was yX10_was) ∈ ea_tbl := ea_inT 975 (by decide +kernel) rfl
theorem wlL_96 : (Cond.methodLink RL 96 yX11_was) ∈ ea_tbl := ea_inT 1569 (by decide +kernel) rfl
theorem wvL_X11_was : (Cond.instanceMethod yX11_was) ∈ ea_tbl := ea_inT 1570 (by decide +kernel) rfl
theorem wzL_X11_was : (Cond.selects RX11 yX11_was yX11_was) ∈ ea_tbl := ea_inT 1571 (by decide +kernel) rfl
theorem wlL_97 : (Cond.methodLink RL 97 yX10_grey) ∈ ea_tbl := ea_inT 991 (by decide +kernel) rfl
theorem wvL_X10_grey : (Cond.instanceMethod yX10_grey) ∈ ea_tbl := ea_inT 992 (by decide +kernel) rfl
theorem wzL_X10_grey : (Cond.selects RX10 yX10_grey yX10_grey) ∈ ea_tbl := ea_inT 993 (by decide +kernel) rfl
theorem wlL_100 : (Cond.methodLink RL 100 yX11_grey) ∈ ea_tbl := ea_inT 1577 (by decide +kernel) rfl
theorem wvL_X11_grey : (Cond.instanceMethod yX11_grey) ∈ ea_tbl := ea_inT 1578 (by decide +kernel) rfl
theorem wzL_X11_grey : (Cond.selects RX11 yX11_grey yX11_grey) ∈ ea_tbl := ea_inT 1579 (by decide +kernel) rfl
theorem wlL_101 : (Cond.methodLink RL 101 yX10_mended) ∈ ea_tbl := ea_inT 999 (by decide +kernel) rfl
theorem wvL_X10_mended : (Cond.instanceMethod yX10_mended) ∈ ea_tbl := ea_inT 1000 (by decide +kernel) rfl
theorem wzL_X10_mended : (Cond.selects RX10 yX10_mended yX10_mended) ∈ ea_tbl := ea_inT 1001 (by decide +kernel) rfl
theorem wlL_104 : (Cond.methodLink RL 104 yX11_mended) ∈ ea_tbl := ea_inT 1588 (by decide +kernel) rfl
theorem wvL_X11_mended : (Cond.instanceMethod yX11_mended) ∈ ea_tbl := ea_inT 1589 (by decide +kernel) rfl
theorem wzL_X11_mended : (Cond.selects RX11 yX11_mended yX11_mended) ∈ ea_tbl := ea_inT 1590 (by decide +kernel) rfl
theorem wlL_105 : (Cond.methodLink RL 105 yX10_lightBack) ∈ ea_tbl := ea_inT 1003 (by decide +kernel) rfl
theorem wvL_X10_lightBack : (Cond.instanceMethod yX10_lightBack) ∈ ea_tbl := ea_inT 1004 (by decide +kernel) rfl
theorem wzL_X10_lightBack : (Cond.selects RX10 yX10_lightBack yX10_lightBack) ∈ ea_tbl := ea_inT 1005 (by decide +kernel) rfl
theorem wlL_108 : (Cond.methodLink RL 108 yX11_lightBack) ∈ ea_tbl := ea_inT 1592 (by decide +kernel) rfl
theorem wvL_X11_lightBack : (Cond.instanceMethod yX11_lightBack) ∈ ea_tbl := ea_inT 1593 (by decide +kernel) rfl
theorem wzL_X11_lightBack : (Cond.selects RX11 yX11_lightBack yX11_lightBack) ∈ ea_tbl := ea_inT 1594 (by decide +kernel) rfl
theorem wlL_109 : (Cond.methodLink RL 109 yX10_stories) ∈ ea_tbl := ea_inT 1023 (by decide +kernel) rfl
theorem wvL_X10_stories : (Cond.instanceMethod yX10_stories) ∈ ea_tbl := ea_inT 1024 (by decide +kernel) rfl
theorem wzL_X10_stories : (Cond.selects RX10 yX10_stories yX10_stories) ∈ ea_tbl := ea_inT 1025 (by decide +kernel) rfl
theorem wlL_112 : (Cond.methodLink RL 112 yX11_stories) ∈ ea_tbl := ea_inT 1596 (by decide +kernel) rfl
theorem wvL_X11_stories : (Cond.instanceMethod yX11_stories) ∈ ea_tbl := ea_inT 1597 (by decide +kernel) rfl
theorem wzL_X11_stories : (Cond.selects RX11 yX11_stories yX11_stories) ∈ ea_tbl := ea_inT 1598 (by decide +kernel) rfl
theorem wlL_113 : (Cond.methodLink RL 113 yX10_vat) ∈ ea_tbl := ea_inT 1038 (by decide +kernel) rfl
theorem wvL_X10_vat : (Cond.instanceMethod yX10_vat) ∈ ea_tbl := ea_inT 1039 (by decide +kernel) rfl
theorem wzL_X10_vat : (Cond.selects RX10 yX10_vat yX10_vat) ∈ ea_tbl := ea_inT 1040 (by decide +kernel) rfl
theorem wlL_116 : (Cond.methodLink RL 116 yX11_vat) ∈ ea_tbl := ea_inT 1600 (by decide +kernel) rfl
theorem wvL_X11_vat : (Cond.instanceMethod yX11_vat) ∈ ea_tbl := ea_inT 1601 (by decide +kernel) rfl
theorem wzL_X11_vat : (Cond.selects RX11 yX11_vat yX11_vat) ∈ ea_tbl := ea_inT 1602 (by decide +kernel) rfl
theorem wlL_117 : (Cond.methodLink RL 117 yX10_vats) ∈ ea_tbl := ea_inT 1046 (by decide +kernel) rfl
theorem wvL_X10_vats : (Cond.instanceMethod yX10_vats) ∈ ea_tbl := ea_inT 1047 (by decide +kernel) rfl
theorem wzL_X10_vats : (Cond.selects RX10 yX10_vats yX10_vats) ∈ ea_tbl := ea_inT 1048 (by decide +kernel) rfl
theorem wlL_120 : (Cond.methodLink RL 120 yX11_vats) ∈ ea_tbl := ea_inT 1611 (by decide +kernel) rfl
theorem wvL_X11_vats : (Cond.instanceMethod yX11_vats) ∈ ea_tbl := ea_inT 1612 (by decide +kernel) rfl
theorem wzL_X11_vats : (Cond.selects RX11 yX11_vats yX11_vats) ∈ ea_tbl := ea_inT 1613 (by decide +kernel) rfl
theorem wlL_121 : (Cond.methodLink RL 121 yX10_next) ∈ ea_tbl := ea_inT 1058 (by decide +kernel) rfl
theorem wvL_X10_next : (Cond.instanceMethod yX10_next) ∈ ea_tbl := ea_inT 1059 (by decide +kernel) rfl
theorem wzL_X10_next : (Cond.selects RX10 yX10_next yX10_next) ∈ ea_tbl := ea_inT 1060 (by decide +kernel) rfl
theorem wlL_124 : (Cond.methodLink RL 124 yX11_next) ∈ ea_tbl := ea_inT 1619 (by decide +kernel) rfl
theorem wvL_X11_next : (Cond.instanceMethod yX11_next) ∈ ea_tbl := ea_inT 1620 (by decide +kernel) rfl
theorem wzL_X11_next : (Cond.selects RX11 yX11_next yX11_next) ∈ ea_tbl := ea_inT 1621 (by decide +kernel) rfl
theorem wlL_125 : (Cond.methodLink RL 125 yX10_beside) ∈ ea_tbl := ea_inT 1093 (by decide +kernel) rfl
theorem wvL_X10_beside : (Cond.instanceMethod yX10_beside) ∈ ea_tbl := ea_inT 1094 (by decide +kernel) rfl
theorem wzL_X10_beside : (Cond.selects RX10 yX10_beside yX10_beside) ∈ ea_tbl := ea_inT 1095 (by decide +kernel) rfl
theorem wlL_128 : (Cond.methodLink RL 128 yX11_beside) ∈ ea_tbl := ea_inT 1627 (by decide +kernel) rfl
theorem wvL_X11_beside : (Cond.instanceMethod yX11_beside) ∈ ea_tbl := ea_inT 1628 (by decide +kernel) rfl
theorem wzL_X11_beside : (Cond.selects RX11 yX11_beside yX11_beside) ∈ ea_tbl := ea_inT 1629 (by decide +kernel) rfl
theorem wlL_129 : (Cond.methodLink RL 129 yX10_thrown) ∈ ea_tbl := ea_inT 1102 (by decide +kernel) rfl
theorem wvL_X10_thrown : (Cond.instanceMethod yX10_thrown) ∈ ea_tbl := ea_inT 1103 (by decide +kernel) rfl
theorem wzL_X10_thrown : (Cond.selects RX10 yX10_thrown yX10_thrown) ∈ ea_tbl := ea_inT 1104 (by decide +kernel) rfl
theorem wlL_132 : (Cond.methodLink RL 132 yX11_thrown) ∈ ea_tbl := ea_inT 1631 (by decide +kernel) rfl
theorem wvL_X11_thrown : (Cond.instanceMethod yX11_thrown) ∈ ea_tbl := ea_inT 1632 (by decide +kernel) rfl
theorem wzL_X11_thrown : (Cond.selects RX11 yX11_thrown yX11_thrown) ∈ ea_tbl := ea_inT 1633 (by decide +kernel) rfl
theorem wlL_133 : (Cond.methodLink RL 133 yX10_cannot) ∈ ea_tbl := ea_inT 1136 (by decide +kernel) rfl
theorem wvL_X10_cannot : (Cond.instanceMethod yX10_cannot) ∈ ea_tbl := ea_inT 1137 (by decide +kernel) rfl
theorem wzL_X10_cannot : (Cond.selects RX10 yX10_cannot yX10_cannot) ∈ ea_tbl := ea_inT 1138 (by decide +kernel) rfl
theorem wlL_136 : (Cond.methodLink RL 136 yX11_cannot) ∈ ea_tbl := ea_inT 1651 (by decide +kernel) rfl
theorem wvL_X11_cannot : (Cond.instanceMethod yX11_cannot) ∈ ea_tbl := ea_inT 1652 (by decide +kernel) rfl
theorem wzL_X11_cannot : (Cond.selects RX11 yX11_cannot yX11_cannot) ∈ ea_tbl := ea_inT 1653 (by decide +kernel) rfl
theorem wlL_137 : (Cond.methodLink RL 137 yX10_bear) ∈ ea_tbl := ea_inT 1140 (by decide +kernel) rfl
theorem wvL_X10_bear : (Cond.instanceMethod yX10_bear) ∈ ea_tbl := ea_inT 1141 (by decide +kernel) rfl
theorem wzL_X10_bear : (Cond.selects RX10 yX10_bear yX10_bear) ∈ ea_tbl := ea_inT 1142 (by decide +kernel) rfl
theorem wlL_140 : (Cond.methodLink RL 140 yX11_bear) ∈ ea_tbl := ea_inT 1655 (by decide +kernel) rfl
theorem wvL_X11_bear : (Cond.instanceMethod yX11_bear) ∈ ea_tbl := ea_inT 1656 (by decide +kernel) rfl
theorem wzL_X11_bear : (Cond.selects RX11 yX11_bear yX11_bear) ∈ ea_tbl := ea_inT 1657 (by decide +kernel) rfl
theorem wlL_141 : (Cond.methodLink RL 141 yX10_world) ∈ ea_tbl := ea_inT 1148 (by decide +kernel) rfl
theorem wvL_X10_world : (Cond.instanceMethod yX10_world) ∈ ea_tbl := ea_inT 1149 (by decide +kernel) rfl
theorem wzL_X10_world : (Cond.selects RX10 yX10_world yX10_world) ∈ ea_tbl := ea_inT 1150 (by decide +kernel) rfl
theorem wlL_144 : (Cond.methodLink RL 144 yX11_world) ∈ ea_tbl := ea_inT 1663 (by decide +kernel) rfl
theorem wvL_X11_world : (Cond.instanceMethod yX11_world) ∈ ea_tbl := ea_inT 1664 (by decide +kernel) rfl
theorem wzL_X11_world : (Cond.selects RX11 yX11_world yX11_world) ∈ ea_tbl := ea_inT 1665 (by decide +kernel) rfl
theorem wlL_145 : (Cond.methodLink RL 145 yX10_count) ∈ ea_tbl := ea_inT 1170 (by decide +kernel) rfl
theorem wvL_X10_count : (Cond.instanceMethod yX10_count) ∈ ea_tbl := ea_inT 1171 (by decide +kernel) rfl
theorem wzL_X10_count : (Cond.selects RX10 yX10_count yX10_count) ∈ ea_tbl := ea_inT 1172 (by decide +kernel) rfl
theorem wlL_148 : (Cond.methodLink RL 148 yX11_count) ∈ ea_tbl := ea_inT 1680 (by decide +kernel) rfl
theorem wvL_X11_count : (Cond.instanceMethod yX11_count) ∈ ea_tbl := ea_inT 1681 (by decide +kernel) rfl
theorem wzL_X11_count : (Cond.selects RX11 yX11_count yX11_count) ∈ ea_tbl := ea_inT 1682 (by decide +kernel) rfl
def ea_st (Inv : eM → Prop) (fx fm : eM → Option (Int32 × eM)) : Prop := ∀ M, Inv M → ∃ (r : Int32) (M1 M2 : eM), fx M = some (r, M1) ∧ fm M1 = some (r, M2) ∧ Inv M2
def ea_steps (Inv : eM → Prop) : Prop := (∀ (a0 : Int32) (a1 : Int32) (a2 : Int32) (a3 : Int32) (a4 : Int32), ea_st Inv (fX10_feed a0 a1 a2 a3 a4) (fX11_feed a0 a1 a2 a3 a4)) ∧
  (∀ (a0 : Int32), ea_st Inv (fX10_end a0) (fX11_end a0)) ∧
  (ea_st Inv (fX10_cloth) (fX11_cloth)) ∧
  (∀ (a0 : Int32), ea_st Inv (fX10_fault a0) (fX11_fault a0)) ∧
  (∀ (a0 : Int32), ea_st Inv (fX10_told a0) (fX11_told a0)) ∧
  (∀ (a0 : Int32) (a1 : Int32), ea_st Inv (fX10_strength a0 a1) (fX11_strength a0 a1)) ∧
  (∀ (a0 : Int32) (a1 : Int32) (a2 : Int32) (a3 : Int32), ea_st Inv (fX10_hours a0 a1 a2 a3) (fX11_hours a0 a1 a2 a3)) ∧
  (∀ (a0 : Int32) (a1 : Int32) (a2 : Int32) (a3 : Int32), ea_st Inv (fX10_thread a0 a1 a2 a3) (fX11_thread a0 a1 a2 a3)) ∧
  (∀ (a0 : Int32) (a1 : Int32) (a2 : Int32), ea_st Inv (fX10_colour a0 a1 a2) (fX11_colour a0 a1 a2)) ∧
  (∀ (a0 : Int32) (a1 : Int32) (a2 : Int32) (a3 : Int32) (a4 : Int32) (a5 : Int32), ea_st Inv (fX10_look a0 a1 a2 a3 a4 a5) (fX11_look a0 a1 a2 a3 a4 a5)) ∧
  (∀ (a0 : Int32) (a1 : Int32) (a2 : Int32), ea_st Inv (fX10_gone a0 a1 a2) (fX11_gone a0 a1 a2)) ∧
  (∀ (a0 : Int32) (a1 : Int32) (a2 : Int32) (a3 : Int32) (a4 : Int32) (a5 : Int32), ea_st Inv (fX10_attempt a0 a1 a2 a3 a4 a5) (fX11_attempt a0 a1 a2 a3 a4 a5)) ∧
  (∀ (a0 : Int32) (a1 : Int32) (a2 : Int32) (a3 : Int32) (a4 : Int32), ea_st Inv (fX10_right a0 a1 a2 a3 a4) (fX11_right a0 a1 a2 a3 a4)) ∧
  (∀ (a0 : Int32) (a1 : Int32) (a2 : Int32) (a3 : Int32), ea_st Inv (fX10_shows a0 a1 a2 a3) (fX11_shows a0 a1 a2 a3)) ∧
  (∀ (a0 : Int32), ea_st Inv (fX10_keep a0) (fX11_keep a0)) ∧
  (∀ (a0 : Int32), ea_st Inv (fX10_take a0) (fX11_take a0)) ∧
  (∀ (a0 : Int32) (a1 : Int32) (a2 : Int32) (a3 : Int32), ea_st Inv (fX10_fit a0 a1 a2 a3) (fX11_fit a0 a1 a2 a3)) ∧
  (∀ (a0 : Int32) (a1 : Int32) (a2 : Int32) (a3 : Int32) (a4 : Int32), ea_st Inv (fX10_pair a0 a1 a2 a3 a4) (fX11_pair a0 a1 a2 a3 a4)) ∧
  (∀ (a0 : Int32) (a1 : Int32) (a2 : Int32) (a3 : Int32) (a4 : Int32), (a4 = 0 ∨ a4 = 1) → ea_st Inv (fX10_was a0 a1 a2 a3 a4) (fX11_was a0 a1 a2 a3 a4)) ∧
  (∀ (a0 : Int32) (a1 : Int32) (a2 : Int32) (a3 : Int32) (a4 : Int32), ea_st Inv (fX10_grey a0 a1 a2 a3 a4) (fX11_grey a0 a1 a2 a3 a4)) ∧
  (∀ (a0 : Int32) (a1 : Int32) (a2 : Int32), ea_st Inv (fX10_mended a0 a1 a2) (fX11_mended a0 a1 a2)) ∧
  (∀ (a0 : Int32) (a1 : Int32) (a2 : Int32) (a3 : Int32) (a4 : Int32), (a4 = 0 ∨ a4 = 1) → ea_st Inv (fX10_lightBack a0 a1 a2 a3 a4) (fX11_lightBack a0 a1 a2 a3 a4)) ∧
  (∀ (a0 : Int32), ea_st Inv (fX10_stories a0) (fX11_stories a0)) ∧
  (∀ (a0 : Int32) (a1 : Int32) (a2 : Int32) (a3 : Int32) (a4 : Int32), (a4 = 0 ∨ a4 = 1) → ea_st Inv (fX10_vat a0 a1 a2 a3 a4) (fX11_vat a0 a1 a2 a3 a4)) ∧
  (∀ (a0 : Int32) (a1 : Int32), ea_st Inv (fX10_vats a0 a1) (fX11_vats a0 a1)) ∧
  (∀ (a0 : Int32) (a1 : Int32), ea_st Inv (fX10_next a0 a1) (fX11_next a0 a1)) ∧
  (∀ (a0 : Int32) (a1 : Int32) (a2 : Int32) (a3 : Int32), ea_st Inv (fX10_beside a0 a1 a2 a3) (fX11_beside a0 a1 a2 a3)) ∧
  (∀ (a0 : Int32) (a1 : Int32) (a2 : Int32) (a3 : Int32) (a4 : Int32), ea_st Inv (fX10_thrown a0 a1 a2 a3 a4) (fX11_thrown a0 a1 a2 a3 a4)) ∧
  (∀ (a0 : Int32) (a1 : Int32) (a2 : Int32) (a3 : Int32), ea_st Inv (fX10_cannot a0 a1 a2 a3) (fX11_cannot a0 a1 a2 a3)) ∧
  (∀ (a0 : Int32) (a1 : Int32) (a2 : Int32), ea_st Inv (fX10_bear a0 a1 a2) (fX11_bear a0 a1 a2)) ∧
  (∀ (a0 : Int32) (a1 : Int32) (a2 : Int32), ea_st Inv (fX10_world a0 a1 a2) (fX11_world a0 a1 a2)) ∧
  (∀ (a0 : Int32), ea_st Inv (fX10_count a0) (fX11_count a0))
section LAW
variable {p : Program} {l : Launch} {e : Env} {s : State} {m : MethodId} {args : Array Value} {below : List Frame} {meth : Method} {c : Code} {E : eE} {ids : List Nat} {H : Heap} {locs : List Loc} {cells slots b L : Nat} {xs : Nat → Int32} {Q : State → Prop} {x3 : Int32} {M : eM} {ls : Array Slot} {Inv : eM → Prop}
set_option maxHeartbeats 4000000 in
set_option maxRecDepth 20000 in
theorem law_0 (C : ea_C p s m args meth c code 4 ret RL) (hX : ea_X ids) (hY : ea_Y ids) (hX0 : va_X b L xs s s.heap) (hbl : b < s.heap.size) (hbA : ¬ ea_Ad E ids b) (hcs : cells ≤ room_1.cells ∧ slots ≤ room_1.slots) (hin : ∀ k : Int32, (1 ≤ k ∧ k ≤ 6) → vp_in (x3 + k) L) (hw : ea_w E ids M s H locs) (hl : lv_has ls 4 [(0, .ref b), (1, .ref (E.1 0)), (2, .ref (E.1 100)), (3, .int x3)]) (hst : ∀ (a0 : Int32) (a1 : Int32) (a2 : Int32) (a3 : Int32) (a4 : Int32), ea_st Inv (fX10_feed a0 a1 a2 a3 a4) (fX11_feed a0 a1 a2 a3 a4)) (hM : Inv M)
    (kk : ∀ (M : eM) (H : Heap) (locs : List Loc) (ls : Array Slot), Inv M → ea_w E ids M s H locs → lv_has ls 4 [(0, .ref b), (1, .ref (E.1 0)), (2, .ref (E.1 100)), (3, .int x3)] → W p l e room_1 s m args below meth c H locs cells slots Q (F0 m 1684 ls [])) : W p l e room_1 s m args below meth c H locs cells slots Q (F0 m 176 ls []) := by
  refine lv_aload_n C.1 C.2.1 dL_law_176 rfl (lv_at hl 1 rfl) ?_
  refine lv_aload_n C.1 C.2.1 dL_law_177 rfl (lv_at hl 0 rfl) ?_
  refine lv_iload_n C.1 C.2.1 dL_law_178 rfl (lv_at hl 3 rfl) ?_
  refine lv_iconst (v := 1) C.1 C.2.1 dL_law_179 (by decide) ?_
  refine lv_iadd C.1 C.2.1 dL_law_180 ?_
  refine va_sld C.1 C.2.1 hX0 hbl hbA hw.2.2.2.1 (hin 1 (by decide)) dL_law_181 ?_
  refine lv_aload_n C.1 C.2.1 dL_law_182 rfl (lv_at hl 0 rfl) ?_
  refine lv_iload_n C.1 C.2.1 dL_law_183 rfl (lv_at hl 3 rfl) ?_
  refine lv_iconst (v := 2) C.1 C.2.1 dL_law_184 (by decide) ?_
  refine lv_iadd C.1 C.2.1 dL_law_185 ?_
  refine va_sld C.1 C.2.1 hX0 hbl hbA hw.2.2.2.1 (hin 2 (by decide)) dL_law_186 ?_
  refine lv_aload_n C.1 C.2.1 dL_law_187 rfl (lv_at hl 0 rfl) ?_
  refine lv_iload_n C.1 C.2.1 dL_law_188 rfl (lv_at hl 3 rfl) ?_
  refine lv_iconst (v := 3) C.1 C.2.1 dL_law_189 (by decide) ?_
  refine lv_iadd C.1 C.2.1 dL_law_190 ?_
  refine va_sld C.1 C.2.1 hX0 hbl hbA hw.2.2.2.1 (hin 3 (by decide)) dL_law_191 ?_
  refine lv_aload_n C.1 C.2.1 dL_law_192 rfl (lv_at hl 0 rfl) ?_
  refine lv_iload_n C.1 C.2.1 dL_law_193 rfl (lv_at hl 3 rfl) ?_
  refine lv_iconst (v := 4) C.1 C.2.1 dL_law_194 (by decide) ?_
  refine lv_iadd C.1 C.2.1 dL_law_195 ?_
  refine va_sld C.1 C.2.1 hX0 hbl hbA hw.2.2.2.1 (hin 4 (by decide)) dL_law_196 ?_
  refine lv_aload_n C.1 C.2.1 dL_law_197 rfl (lv_at hl 0 rfl) ?_
  refine lv_iload_n C.1 C.2.1 dL_law_198 rfl (lv_at hl 3 rfl) ?_
  refine lv_iconst (v := 5) C.1 C.2.1 dL_law_199 (by decide) ?_
  refine lv_iadd C.1 C.2.1 dL_law_200 ?_
  refine va_sld C.1 C.2.1 hX0 hbl hbA hw.2.2.2.1 (hin 5 (by decide)) dL_law_201 ?_
  obtain ⟨r, M1, M2, e1, e2, hI⟩ := hst (xs (x3 + 1).toNatClampNeg) (xs (x3 + 2).toNatClampNeg) (xs (x3 + 3).toNatClampNeg) (xs (x3 + 4).toNatClampNeg) (xs (x3 + 5).toNatClampNeg) M hM
  refine ea_runi2 hw (ea_runV (n := 5) C hw (hX 0 10 rfl) (by decide) (by decide) rfl (As := [.int (xs (x3 + 1).toNatClampNeg), .int (xs (x3 + 2).toNatClampNeg), .int (xs (x3 + 3).toNatClampNeg), .int (xs (x3 + 4).toNatClampNeg), .int (xs (x3 + 5).toNatClampNeg)]) (rest := []) (mX10_feed (l := l) (E := E) (ids := ids) hX e1) wc_X10_feed wi_RX10 wlL_13 wvL_X10_feed wzL_X10_feed (by decide +kernel) (by decide) rfl hl.1 rfl (Nat.le_of_ble_eq_true rfl) dL_law_202 hcs) (fun H locs hw => ?_)
  refine lv_aload_n C.1 C.2.1 dL_law_205 rfl (lv_at hl 2 rfl) ?_
  refine lv_aload_n C.1 C.2.1 dL_law_206 rfl (lv_at hl 0 rfl) ?_
  refine lv_iload_n C.1 C.2.1 dL_law_207 rfl (lv_at hl 3 rfl) ?_
  refine lv_iconst (v := 1) C.1 C.2.1 dL_law_208 (by decide) ?_
  refine lv_iadd C.1 C.2.1 dL_law_209 ?_
  refine va_sld C.1 C.2.1 hX0 hbl hbA hw.2.2.2.1 (hin 1 (by decide)) dL_law_210 ?_
  refine lv_aload_n C.1 C.2.1 dL_law_211 rfl (lv_at hl 0 rfl) ?_
  refine lv_iload_n C.1 C.2.1 dL_law_212 rfl (lv_at hl 3 rfl) ?_
  refine lv_iconst (v := 2) C.1 C.2.1 dL_law_213 (by decide) ?_
  refine lv_iadd C.1 C.2.1 dL_law_214 ?_
  refine va_sld C.1 C.2.1 hX0 hbl hbA hw.2.2.2.1 (hin 2 (by decide)) dL_law_215 ?_
  refine lv_aload_n C.1 C.2.1 dL_law_216 rfl (lv_at hl 0 rfl) ?_
  refine lv_iload_n C.1 C.2.1 dL_law_217 rfl (lv_at hl 3 rfl) ?_
  refine lv_iconst (v := 3) C.1 C.2.1 dL_law_218 (by decide) ?_
  refine lv_iadd C.1 C.2.1 dL_law_219 ?_
  refine va_sld C.1 C.2.1 hX0 hbl hbA hw.2.2.2.1 (hin 3 (by decide)) dL_law_220 ?_
  refine lv_aload_n C.1 C.2.1 dL_law_221 rfl (lv_at hl 0 rfl) ?_
  refine lv_iload_n C.1 C.2.1 dL_law_222 rfl (lv_at hl 3 rfl) ?_
  refine lv_iconst (v := 4) C.1 C.2.1 dL_law_223 (by decide) ?_
  refine lv_iadd C.1 C.2.1 dL_law_224 ?_
  refine va_sld C.1 C.2.1 hX0 hbl hbA hw.2.2.2.1 (hin 4 (by decide)) dL_law_225 ?_
  refine lv_aload_n C.1 C.2.1 dL_law_226 rfl (lv_at hl 0 rfl) ?_
  refine lv_iload_n C.1 C.2.1 dL_law_227 rfl (lv_at hl 3 rfl) ?_
  refine lv_iconst (v := 5) C.1 C.2.1 dL_law_228 (by decide) ?_
  refine lv_iadd C.1 C.2.1 dL_law_229 ?_
  refine va_sld C.1 C.2.1 hX0 hbl hbA hw.2.2.2.1 (hin 5 (by decide)) dL_law_230 ?_
  refine ea_runi2 hw (ea_runV (n := 5) C hw (hY 100 11 rfl) (by decide) (by decide) rfl (As := [.int (xs (x3 + 1).toNatClampNeg), .int (xs (x3 + 2).toNatClampNeg), .int (xs (x3 + 3).toNatClampNeg), .int (xs (x3 + 4).toNatClampNeg), .int (xs (x3 + 5).toNatClampNeg)]) (rest := [.int r]) (mX11_feed (l := l) (E := E) (ids := ids) hY e2) wc_X11_feed wi_RX11 wlL_17 wvL_X11_feed wzL_X11_feed (by decide +kernel) (by decide) rfl hl.1 rfl (Nat.le_of_ble_eq_true rfl) dL_law_231 hcs) (fun H locs hw => ?_)
  exact lv_icmp_eq (tgt := 1684) C.1 C.2.1 dL_law_234 (by decide) (fun _ => kk _ _ _ _ hI hw hl) (fun q => absurd rfl q)
set_option maxHeartbeats 4000000 in
set_option maxRecDepth 20000 in
theorem law_1 (C : ea_C p s m args meth c code 4 ret RL) (hX : ea_X ids) (hY : ea_Y ids) (hX0 : va_X b L xs s s.heap) (hbl : b < s.heap.size) (hbA : ¬ ea_Ad E ids b) (hcs : cells ≤ room_1.cells ∧ slots ≤ room_1.slots) (hin : ∀ k : Int32, (1 ≤ k ∧ k ≤ 6) → vp_in (x3 + k) L) (hw : ea_w E ids M s H locs) (hl : lv_has ls 4 [(0, .ref b), (1, .ref (E.1 0)), (2, .ref (E.1 100)), (3, .int x3)]) (hst : ∀ (a0 : Int32), ea_st Inv (fX10_end a0) (fX11_end a0)) (hM : Inv M)
    (kk : ∀ (M : eM) (H : Heap) (locs : List Loc) (ls : Array Slot), Inv M → ea_w E ids M s H locs → lv_has ls 4 [(0, .ref b), (1, .ref (E.1 0)), (2, .ref (E.1 100)), (3, .int x3)] → W p l e room_1 s m args below meth c H locs cells slots Q (F0 m 1684 ls [])) : W p l e room_1 s m args below meth c H locs cells slots Q (F0 m 239 ls []) := by
  refine lv_aload_n C.1 C.2.1 dL_law_239 rfl (lv_at hl 1 rfl) ?_
  refine lv_aload_n C.1 C.2.1 dL_law_240 rfl (lv_at hl 0 rfl) ?_
  refine lv_iload_n C.1 C.2.1 dL_law_241 rfl (lv_at hl 3 rfl) ?_
  refine lv_iconst (v := 1) C.1 C.2.1 dL_law_242 (by decide) ?_
  refine lv_iadd C.1 C.2.1 dL_law_243 ?_
  refine va_sld C.1 C.2.1 hX0 hbl hbA hw.2.2.2.1 (hin 1 (by decide)) dL_law_244 ?_
  obtain ⟨r, M1, M2, e1, e2, hI⟩ := hst (xs (x3 + 1).toNatClampNeg) M hM
  refine ea_runi2 hw (ea_runV (n := 1) C hw (hX 0 10 rfl) (by decide) (by decide) rfl (As := [.int (xs (x3 + 1).toNatClampNeg)]) (rest := []) (mX10_end (l := l) (E := E) (ids := ids) hX e1) wc_X10_end wi_RX10 wlL_18 wvL_X10_end wzL_X10_end (by decide +kernel) (by decide) rfl hl.1 rfl (Nat.le_of_ble_eq_true rfl) dL_law_245 hcs) (fun H locs hw => ?_)
  refine lv_aload_n C.1 C.2.1 dL_law_248 rfl (lv_at hl 2 rfl) ?_
  refine lv_aload_n C.1 C.2.1 dL_law_249 rfl (lv_at hl 0 rfl) ?_
  refine lv_iload_n C.1 C.2.1 dL_law_250 rfl (lv_at hl 3 rfl) ?_
  refine lv_iconst (v := 1) C.1 C.2.1 dL_law_251 (by decide) ?_
  refine lv_iadd C.1 C.2.1 dL_law_252 ?_
  refine va_sld C.1 C.2.1 hX0 hbl hbA hw.2.2.2.1 (hin 1 (by decide)) dL_law_253 ?_
  refine ea_runi2 hw (ea_runV (n := 1) C hw (hY 100 11 rfl) (by decide) (by decide) rfl (As := [.int (xs (x3 + 1).toNatClampNeg)]) (rest := [.int r]) (mX11_end (l := l) (E := E) (ids := ids) hY e2) wc_X11_end wi_RX11 wlL_22 wvL_X11_end wzL_X11_end (by decide +kernel) (by decide) rfl hl.1 rfl (Nat.le_of_ble_eq_true rfl) dL_law_254 hcs) (fun H locs hw => ?_)
  exact lv_icmp_eq (tgt := 1684) C.1 C.2.1 dL_law_257 (by decide) (fun _ => kk _ _ _ _ hI hw hl) (fun q => absurd rfl q)
set_option maxHeartbeats 4000000 in
set_option maxRecDepth 20000 in
theorem law_2 (C : ea_C p s m args meth c code 4 ret RL) (hX : ea_X ids) (hY : ea_Y ids) (hX0 : va_X b L xs s s.heap) (hbl : b < s.heap.size) (hbA : ¬ ea_Ad E ids b) (hcs : cells ≤ room_1.cells ∧ slots ≤ room_1.slots) (hin : ∀ k : Int32, (1 ≤ k ∧ k ≤ 6) → vp_in (x3 + k) L) (hw : ea_w E ids M s H locs) (hl : lv_has ls 4 [(0, .ref b), (1, .ref (E.1 0)), (2, .ref (E.1 100)), (3, .int x3)]) (hst : ea_st Inv (fX10_cloth) (fX11_cloth)) (hM : Inv M)
    (kk : ∀ (M : eM) (H : Heap) (locs : List Loc) (ls : Array Slot), Inv M → ea_w E ids M s H locs → lv_has ls 4 [(0, .ref b), (1, .ref (E.1 0)), (2, .ref (E.1 100)), (3, .int x3)] → W p l e room_1 s m args below meth c H locs cells slots Q (F0 m 1684 ls [])) : W p l e room_1 s m args below meth c H locs cells slots Q (F0 m 262 ls []) := by
  refine lv_aload_n C.1 C.2.1 dL_law_262 rfl (lv_at hl 1 rfl) ?_
  obtain ⟨r, M1, M2, e1, e2, hI⟩ := hst M hM
  refine ea_runi2 hw (ea_runV (n := 0) C hw (hX 0 10 rfl) (by decide) (by decide) rfl (As := []) (rest := []) (mX10_cloth (l := l) (E := E) (ids := ids) hX e1) wc_X10_cloth wi_RX10 wlL_23 wvL_X10_cloth wzL_X10_cloth (by decide +kernel) (by decide) rfl hl.1 rfl (Nat.le_of_ble_eq_true rfl) dL_law_263 hcs) (fun H locs hw => ?_)
  refine lv_aload_n C.1 C.2.1 dL_law_266 rfl (lv_at hl 2 rfl) ?_
  refine ea_runi2 hw (ea_runV (n := 0) C hw (hY 100 11 rfl) (by decide) (by decide) rfl (As := []) (rest := [.int r]) (mX11_cloth (l := l) (E := E) (ids := ids) hY e2) wc_X11_cloth wi_RX11 wlL_27 wvL_X11_cloth wzL_X11_cloth (by decide +kernel) (by decide) rfl hl.1 rfl (Nat.le_of_ble_eq_true rfl) dL_law_267 hcs) (fun H locs hw => ?_)
  exact lv_icmp_eq (tgt := 1684) C.1 C.2.1 dL_law_270 (by decide) (fun _ => kk _ _ _ _ hI hw hl) (fun q => absurd rfl q)
set_option maxHeartbeats 4000000 in
set_option maxRecDepth 20000 in
theorem law_3 (C : ea_C p s m args meth c code 4 ret RL) (hX : ea_X ids) (hY : ea_Y ids) (hX0 : va_X b L xs s s.heap) (hbl : b < s.heap.size) (hbA : ¬ ea_Ad E ids b) (hcs : cells ≤ room_1.cells ∧ slots ≤ room_1.slots) (hin : ∀ k : Int32, (1 ≤ k ∧ k ≤ 6) → vp_in (x3 + k) L) (hw : ea_w E ids M s H locs) (hl : lv_has ls 4 [(0, .ref b), (1, .ref (E.1 0)), (2, .ref (E.1 100)), (3, .int x3)]) (hst : ∀ (a0 : Int32), ea_st Inv (fX10_fault a0) (fX11_fault a0)) (hM : Inv M)
    (kk : ∀ (M : eM) (H : Heap) (locs : List Loc) (ls : Array Slot), Inv M → ea_w E ids M s H locs → lv_has ls 4 [(0, .ref b), (1, .ref (E.1 0)), (2, .ref (E.1 100)), (3, .int x3)] → W p l e room_1 s m args below meth c H locs cells slots Q (F0 m 1684 ls [])) : W p l e room_1 s m args below meth c H locs cells slots Q (F0 m 275 ls []) := by
  refine lv_aload_n C.1 C.2.1 dL_law_275 rfl (lv_at hl 1 rfl) ?_
  refine lv_aload_n C.1 C.2.1 dL_law_276 rfl (lv_at hl 0 rfl) ?_
  refine lv_iload_n C.1 C.2.1 dL_law_277 rfl (lv_at hl 3 rfl) ?_
  refine lv_iconst (v := 1) C.1 C.2.1 dL_law_278 (by decide) ?_
  refine lv_iadd C.1 C.2.1 dL_law_279 ?_
  refine va_sld C.1 C.2.1 hX0 hbl hbA hw.2.2.2.1 (hin 1 (by decide)) dL_law_280 ?_
  obtain ⟨r, M1, M2, e1, e2, hI⟩ := hst (xs (x3 + 1).toNatClampNeg) M hM
  refine ea_runi2 hw (ea_runV (n := 1) C hw (hX 0 10 rfl) (by decide) (by decide) rfl (As := [.int (xs (x3 + 1).toNatClampNeg)]) (rest := []) (mX10_fault (l := l) (E := E) (ids := ids) hX e1) wc_X10_fault wi_RX10 wlL_28 wvL_X10_fault wzL_X10_fault (by decide +kernel) (by decide) rfl hl.1 rfl (Nat.le_of_ble_eq_true rfl) dL_law_281 hcs) (fun H locs hw => ?_)
  refine lv_aload_n C.1 C.2.1 dL_law_284 rfl (lv_at hl 2 rfl) ?_
  refine lv_aload_n C.1 C.2.1 dL_law_285 rfl (lv_at hl 0 rfl) ?_
  refine lv_iload_n C.1 C.2.1 dL_law_286 rfl (lv_at hl 3 rfl) ?_
  refine lv_iconst (v := 1) C.1 C.2.1 dL_law_287 (by decide) ?_
  refine lv_iadd C.1 C.2.1 dL_law_288 ?_
  refine va_sld C.1 C.2.1 hX0 hbl hbA hw.2.2.2.1 (hin 1 (by decide)) dL_law_289 ?_
  refine ea_runi2 hw (ea_runV (n := 1) C hw (hY 100 11 rfl) (by decide) (by decide) rfl (As := [.int (xs (x3 + 1).toNatClampNeg)]) (rest := [.int r]) (mX11_fault (l := l) (E := E) (ids := ids) hY e2) wc_X11_fault wi_RX11 wlL_31 wvL_X11_fault wzL_X11_fault (by decide +kernel) (by decide) rfl hl.1 rfl (Nat.le_of_ble_eq_true rfl) dL_law_290 hcs) (fun H locs hw => ?_)
  exact lv_icmp_eq (tgt := 1684) C.1 C.2.1 dL_law_293 (by decide) (fun _ => kk _ _ _ _ hI hw hl) (fun q => absurd rfl q)
set_option maxHeartbeats 4000000 in
set_option maxRecDepth 20000 in
theorem law_4 (C : ea_C p s m args meth c code 4 ret RL) (hX : ea_X ids) (hY : ea_Y ids) (hX0 : va_X b L xs s s.heap) (hbl : b < s.heap.size) (hbA : ¬ ea_Ad E ids b) (hcs : cells ≤ room_1.cells ∧ slots ≤ room_1.slots) (hin : ∀ k : Int32, (1 ≤ k ∧ k ≤ 6) → vp_in (x3 + k) L) (hw : ea_w E ids M s H locs) (hl : lv_has ls 4 [(0, .ref b), (1, .ref (E.1 0)), (2, .ref (E.1 100)), (3, .int x3)]) (hst : ∀ (a0 : Int32), ea_st Inv (fX10_told a0) (fX11_told a0)) (hM : Inv M)
    (kk : ∀ (M : eM) (H : Heap) (locs : List Loc) (ls : Array Slot), Inv M → ea_w E ids M s H locs → lv_has ls 4 [(0, .ref b), (1, .ref (E.1 0)), (2, .ref (E.1 100)), (3, .int x3)] → W p l e room_1 s m args below meth c H locs cells slots Q (F0 m 1684 ls [])) : W p l e room_1 s m args below meth c H locs cells slots Q (F0 m 298 ls []) := by
  refine lv_aload_n C.1 C.2.1 dL_law_298 rfl (lv_at hl 1 rfl) ?_
  refine lv_aload_n C.1 C.2.1 dL_law_299 rfl (lv_at hl 0 rfl) ?_
  refine lv_iload_n C.1 C.2.1 dL_law_300 rfl (lv_at hl 3 rfl) ?_
  refine lv_iconst (v := 1) C.1 C.2.1 dL_law_301 (by decide) ?_
  refine lv_iadd C.1 C.2.1 dL_law_302 ?_
  refine va_sld C.1 C.2.1 hX0 hbl hbA hw.2.2.2.1 (hin 1 (by decide)) dL_law_303 ?_
  obtain ⟨r, M1, M2, e1, e2, hI⟩ := hst (xs (x3 + 1).toNatClampNeg) M hM
  refine ea_runi2 hw (ea_runV (n := 1) C hw (hX 0 10 rfl) (by decide) (by decide) rfl (As := [.int (xs (x3 + 1).toNatClampNeg)]) (rest := []) (mX10_told (l := l) (E := E) (ids := ids) hX e1) wc_X10_told wi_RX10 wlL_32 wvL_X10_told wzL_X10_told (by decide +kernel) (by decide) rfl hl.1 rfl (Nat.le_of_ble_eq_true rfl) dL_law_304 hcs) (fun H locs hw => ?_)
  refine lv_aload_n C.1 C.2.1 dL_law_307 rfl (lv_at hl 2 rfl) ?_
  refine lv_aload_n C.1 C.2.1 dL_law_308 rfl (lv_at hl 0 rfl) ?_
  refine lv_iload_n C.1 C.2.1 dL_law_309 rfl (lv_at hl 3 rfl) ?_
  refine lv_iconst (v := 1) C.1 C.2.1 dL_law_310 (by decide) ?_
  refine lv_iadd C.1 C.2.1 dL_law_311 ?_
  refine va_sld C.1 C.2.1 hX0 hbl hbA hw.2.2.2.1 (hin 1 (by decide)) dL_law_312 ?_
  refine ea_runi2 hw (ea_runV (n := 1) C hw (hY 100 11 rfl) (by decide) (by decide) rfl (As := [.int (xs (x3 + 1).toNatClampNeg)]) (rest := [.int r]) (mX11_told (l := l) (E := E) (ids := ids) hY e2) wc_X11_told wi_RX11 wlL_35 wvL_X11_told wzL_X11_told (by decide +kernel) (by decide) rfl hl.1 rfl (Nat.le_of_ble_eq_true rfl) dL_law_313 hcs) (fun H locs hw => ?_)
  exact lv_icmp_eq (tgt := 1684) C.1 C.2.1 dL_law_316 (by decide) (fun _ => kk _ _ _ _ hI hw hl) (fun q => absurd rfl q)
set_option maxHeartbeats 4000000 in
set_option maxRecDepth 20000 in
theorem law_5 (C : ea_C p s m args meth c code 4 ret RL) (hX : ea_X ids) (hY : ea_Y ids) (hX0 : va_X b L xs s s.heap) (hbl : b < s.heap.size) (hbA : ¬ ea_Ad E ids b) (hcs : cells ≤ room_1.cells ∧ slots ≤ room_1.slots) (hin : ∀ k : Int32, (1 ≤ k ∧ k ≤ 6) → vp_in (x3 + k) L) (hw : ea_w E ids M s H locs) (hl : lv_has ls 4 [(0, .ref b), (1, .ref (E.1 0)), (2, .ref (E.1 100)), (3, .int x3)]) (hst : ∀ (a0 : Int32) (a1 : Int32), ea_st Inv (fX10_strength a0 a1) (fX11_strength a0 a1)) (hM : Inv M)
    (kk : ∀ (M : eM) (H : Heap) (locs : List Loc) (ls : Array Slot), Inv M → ea_w E ids M s H locs → lv_has ls 4 [(0, .ref b), (1, .ref (E.1 0)), (2, .ref (E.1 100)), (3, .int x3)] → W p l e room_1 s m args below meth c H locs cells slots Q (F0 m 1684 ls [])) : W p l e room_1 s m args below meth c H locs cells slots Q (F0 m 321 ls []) := by
  refine lv_aload_n C.1 C.2.1 dL_law_321 rfl (lv_at hl 1 rfl) ?_
  refine lv_aload_n C.1 C.2.1 dL_law_322 rfl (lv_at hl 0 rfl) ?_
  refine lv_iload_n C.1 C.2.1 dL_law_323 rfl (lv_at hl 3 rfl) ?_
  refine lv_iconst (v := 1) C.1 C.2.1 dL_law_324 (by decide) ?_
  refine lv_iadd C.1 C.2.1 dL_law_325 ?_
  refine va_sld C.1 C.2.1 hX0 hbl hbA hw.2.2.2.1 (hin 1 (by decide)) dL_law_326 ?_
  refine lv_aload_n C.1 C.2.1 dL_law_327 rfl (lv_at hl 0 rfl) ?_
  refine lv_iload_n C.1 C.2.1 dL_law_328 rfl (lv_at hl 3 rfl) ?_
  refine lv_iconst (v := 2) C.1 C.2.1 dL_law_329 (by decide) ?_
  refine lv_iadd C.1 C.2.1 dL_law_330 ?_
  refine va_sld C.1 C.2.1 hX0 hbl hbA hw.2.2.2.1 (hin 2 (by decide)) dL_law_331 ?_
  obtain ⟨r, M1, M2, e1, e2, hI⟩ := hst (xs (x3 + 1).toNatClampNeg) (xs (x3 + 2).toNatClampNeg) M hM
  refine ea_runi2 hw (ea_runV (n := 2) C hw (hX 0 10 rfl) (by decide) (by decide) rfl (As := [.int (xs (x3 + 1).toNatClampNeg), .int (xs (x3 + 2).toNatClampNeg)]) (rest := []) (mX10_strength (l := l) (E := E) (ids := ids) hX e1) wc_X10_strength wi_RX10 wlL_36 wvL_X10_strength wzL_X10_strength (by decide +kernel) (by decide) rfl hl.1 rfl (Nat.le_of_ble_eq_true rfl) dL_law_332 hcs) (fun H locs hw => ?_)
  refine lv_aload_n C.1 C.2.1 dL_law_335 rfl (lv_at hl 2 rfl) ?_
  refine lv_aload_n C.1 C.2.1 dL_law_336 rfl (lv_at hl 0 rfl) ?_
  refine lv_iload_n C.1 C.2.1 dL_law_337 rfl (lv_at hl 3 rfl) ?_
  refine lv_iconst (v := 1) C.1 C.2.1 dL_law_338 (by decide) ?_
  refine lv_iadd C.1 C.2.1 dL_law_339 ?_
  refine va_sld C.1 C.2.1 hX0 hbl hbA hw.2.2.2.1 (hin 1 (by decide)) dL_law_340 ?_
  refine lv_aload_n C.1 C.2.1 dL_law_341 rfl (lv_at hl 0 rfl) ?_
  refine lv_iload_n C.1 C.2.1 dL_law_342 rfl (lv_at hl 3 rfl) ?_
  refine lv_iconst (v := 2) C.1 C.2.1 dL_law_343 (by decide) ?_
  refine lv_iadd C.1 C.2.1 dL_law_344 ?_
  refine va_sld C.1 C.2.1 hX0 hbl hbA hw.2.2.2.1 (hin 2 (by decide)) dL_law_345 ?_
  refine ea_runi2 hw (ea_runV (n := 2) C hw (hY 100 11 rfl) (by decide) (by decide) rfl (As := [.int (xs (x3 + 1).toNatClampNeg), .int (xs (x3 + 2).toNatClampNeg)]) (rest := [.int r]) (mX11_strength (l := l) (E := E) (ids := ids) hY e2) wc_X11_strength wi_RX11 wlL_40 wvL_X11_strength wzL_X11_strength (by decide +kernel) (by decide) rfl hl.1 rfl (Nat.le_of_ble_eq_true rfl) dL_law_346 hcs) (fun H locs hw => ?_)
  exact lv_icmp_eq (tgt := 1684) C.1 C.2.1 dL_law_349 (by decide) (fun _ => kk _ _ _ _ hI hw hl) (fun q => absurd rfl q)
set_option maxHeartbeats 4000000 in
set_option maxRecDepth 20000 in
theorem law_6 (C : ea_C p s m args meth c code 4 ret RL) (hX : ea_X ids) (hY : ea_Y ids) (hX0 : va_X b L xs s s.heap) (hbl : b < s.heap.size) (hbA : ¬ ea_Ad E ids b) (hcs : cells ≤ room_1.cells ∧ slots ≤ room_1.slots) (hin : ∀ k : Int32, (1 ≤ k ∧ k ≤ 6) → vp_in (x3 + k) L) (hw : ea_w E ids M s H locs) (hl : lv_has ls 4 [(0, .ref b), (1, .ref (E.1 0)), (2, .ref (E.1 100)), (3, .int x3)]) (hst : ∀ (a0 : Int32) (a1 : Int32) (a2 : Int32) (a3 : Int32), ea_st Inv (fX10_hours a0 a1 a2 a3) (fX11_hours a0 a1 a2 a3)) (hM : Inv M)
    (kk : ∀ (M : eM) (H : Heap) (locs : List Loc) (ls : Array Slot), Inv M → ea_w E ids M s H locs → lv_has ls 4 [(0, .ref b), (1, .ref (E.1 0)), (2, .ref (E.1 100)), (3, .int x3)] → W p l e room_1 s m args below meth c H locs cells slots Q (F0 m 1684 ls [])) : W p l e room_1 s m args below meth c H locs cells slots Q (F0 m 354 ls []) := by
  refine lv_aload_n C.1 C.2.1 dL_law_354 rfl (lv_at hl 1 rfl) ?_
  refine lv_aload_n C.1 C.2.1 dL_law_355 rfl (lv_at hl 0 rfl) ?_
  refine lv_iload_n C.1 C.2.1 dL_law_356 rfl (lv_at hl 3 rfl) ?_
  refine lv_iconst (v := 1) C.1 C.2.1 dL_law_357 (by decide) ?_
  refine lv_iadd C.1 C.2.1 dL_law_358 ?_
  refine va_sld C.1 C.2.1 hX0 hbl hbA hw.2.2.2.1 (hin 1 (by decide)) dL_law_359 ?_
  refine lv_aload_n C.1 C.2.1 dL_law_360 rfl (lv_at hl 0 rfl) ?_
  refine lv_iload_n C.1 C.2.1 dL_law_361 rfl (lv_at hl 3 rfl) ?_
  refine lv_iconst (v := 2) C.1 C.2.1 dL_law_362 (by decide) ?_
  refine lv_iadd C.1 C.2.1 dL_law_363 ?_
  refine va_sld C.1 C.2.1 hX0 hbl hbA hw.2.2.2.1 (hin 2 (by decide)) dL_law_364 ?_
  refine lv_aload_n C.1 C.2.1 dL_law_365 rfl (lv_at hl 0 rfl) ?_
  refine lv_iload_n C.1 C.2.1 dL_law_366 rfl (lv_at hl 3 rfl) ?_
  refine lv_iconst (v := 3) C.1 C.2.1 dL_law_367 (by decide) ?_
  refine lv_iadd C.1 C.2.1 dL_law_368 ?_
  refine va_sld C.1 C.2.1 hX0 hbl hbA hw.2.2.2.1 (hin 3 (by decide)) dL_law_369 ?_
  refine lv_aload_n C.1 C.2.1 dL_law_370 rfl (lv_at hl 0 rfl) ?_
  refine lv_iload_n C.1 C.2.1 dL_law_371 rfl (lv_at hl 3 rfl) ?_
  refine lv_iconst (v := 4) C.1 C.2.1 dL_law_372 (by decide) ?_
  refine lv_iadd C.1 C.2.1 dL_law_373 ?_
  refine va_sld C.1 C.2.1 hX0 hbl hbA hw.2.2.2.1 (hin 4 (by decide)) dL_law_374 ?_
  obtain ⟨r, M1, M2, e1, e2, hI⟩ := hst (xs (x3 + 1).toNatClampNeg) (xs (x3 + 2).toNatClampNeg) (xs (x3 + 3).toNatClampNeg) (xs (x3 + 4).toNatClampNeg) M hM
  refine ea_runi2 hw (ea_runV (n := 4) C hw (hX 0 10 rfl) (by decide) (by decide) rfl (As := [.int (xs (x3 + 1).toNatClampNeg), .int (xs (x3 + 2).toNatClampNeg), .int (xs (x3 + 3).toNatClampNeg), .int (xs (x3 + 4).toNatClampNeg)]) (rest := []) (mX10_hours (l := l) (E := E) (ids := ids) hX e1) wc_X10_hours wi_RX10 wlL_41 wvL_X10_hours wzL_X10_hours (by decide +kernel) (by decide) rfl hl.1 rfl (Nat.le_of_ble_eq_true rfl) dL_law_375 hcs) (fun H locs hw => ?_)
  refine lv_aload_n C.1 C.2.1 dL_law_378 rfl (lv_at hl 2 rfl) ?_
  refine lv_aload_n C.1 C.2.1 dL_law_379 rfl (lv_at hl 0 rfl) ?_
  refine lv_iload_n C.1 C.2.1 dL_law_380 rfl (lv_at hl 3 rfl) ?_
  refine lv_iconst (v := 1) C.1 C.2.1 dL_law_381 (by decide) ?_
  refine lv_iadd C.1 C.2.1 dL_law_382 ?_
  refine va_sld C.1 C.2.1 hX0 hbl hbA hw.2.2.2.1 (hin 1 (by decide)) dL_law_383 ?_
  refine lv_aload_n C.1 C.2.1 dL_law_384 rfl (lv_at hl 0 rfl) ?_
  refine lv_iload_n C.1 C.2.1 dL_law_385 rfl (lv_at hl 3 rfl) ?_
  refine lv_iconst (v := 2) C.1 C.2.1 dL_law_386 (by decide) ?_
  refine lv_iadd C.1 C.2.1 dL_law_387 ?_
  refine va_sld C.1 C.2.1 hX0 hbl hbA hw.2.2.2.1 (hin 2 (by decide)) dL_law_388 ?_
  refine lv_aload_n C.1 C.2.1 dL_law_389 rfl (lv_at hl 0 rfl) ?_
  refine lv_iload_n C.1 C.2.1 dL_law_390 rfl (lv_at hl 3 rfl) ?_
  refine lv_iconst (v := 3) C.1 C.2.1 dL_law_391 (by decide) ?_
  refine lv_iadd C.1 C.2.1 dL_law_392 ?_
  refine va_sld C.1 C.2.1 hX0 hbl hbA hw.2.2.2.1 (hin 3 (by decide)) dL_law_393 ?_
  refine lv_aload_n C.1 C.2.1 dL_law_394 rfl (lv_at hl 0 rfl) ?_
  refine lv_iload_n C.1 C.2.1 dL_law_395 rfl (lv_at hl 3 rfl) ?_
  refine lv_iconst (v := 4) C.1 C.2.1 dL_law_396 (by decide) ?_
  refine lv_iadd C.1 C.2.1 dL_law_397 ?_
  refine va_sld C.1 C.2.1 hX0 hbl hbA hw.2.2.2.1 (hin 4 (by decide)) dL_law_398 ?_
  refine ea_runi2 hw (ea_runV (n := 4) C hw (hY 100 11 rfl) (by decide) (by decide) rfl (As := [.int (xs (x3 + 1).toNatClampNeg), .int (xs (x3 + 2).toNatClampNeg), .int (xs (x3 + 3).toNatClampNeg), .int (xs (x3 + 4).toNatClampNeg)]) (rest := [.int r]) (mX11_hours (l := l) (E := E) (ids := ids) hY e2) wc_X11_hours wi_RX11 wlL_45 wvL_X11_hours wzL_X11_hours (by decide +kernel) (by decide) rfl hl.1 rfl (Nat.le_of_ble_eq_true rfl) dL_law_399 hcs) (fun H locs hw => ?_)
  exact lv_icmp_eq (tgt := 1684) C.1 C.2.1 dL_law_402 (by decide) (fun _ => kk _ _ _ _ hI hw hl) (fun q => absurd rfl q)
set_option maxHeartbeats 4000000 in
set_option maxRecDepth 20000 in
theorem law_7 (C : ea_C p s m args meth c code 4 ret RL) (hX : ea_X ids) (hY : ea_Y ids) (hX0 : va_X b L xs s s.heap) (hbl : b < s.heap.size) (hbA : ¬ ea_Ad E ids b) (hcs : cells ≤ room_1.cells ∧ slots ≤ room_1.slots) (hin : ∀ k : Int32, (1 ≤ k ∧ k ≤ 6) → vp_in (x3 + k) L) (hw : ea_w E ids M s H locs) (hl : lv_has ls 4 [(0, .ref b), (1, .ref (E.1 0)), (2, .ref (E.1 100)), (3, .int x3)]) (hst : ∀ (a0 : Int32) (a1 : Int32) (a2 : Int32) (a3 : Int32), ea_st Inv (fX10_thread a0 a1 a2 a3) (fX11_thread a0 a1 a2 a3)) (hM : Inv M)
    (kk : ∀ (M : eM) (H : Heap) (locs : List Loc) (ls : Array Slot), Inv M → ea_w E ids M s H locs → lv_has ls 4 [(0, .ref b), (1, .ref (E.1 0)), (2, .ref (E.1 100)), (3, .int x3)] → W p l e room_1 s m args below meth c H locs cells slots Q (F0 m 1684 ls [])) : W p l e room_1 s m args below meth c H locs cells slots Q (F0 m 407 ls []) := by
  refine lv_aload_n C.1 C.2.1 dL_law_407 rfl (lv_at hl 1 rfl) ?_
  refine lv_aload_n C.1 C.2.1 dL_law_408 rfl (lv_at hl 0 rfl) ?_
  refine lv_iload_n C.1 C.2.1 dL_law_409 rfl (lv_at hl 3 rfl) ?_
  refine lv_iconst (v := 1) C.1 C.2.1 dL_law_410 (by decide) ?_
  refine lv_iadd C.1 C.2.1 dL_law_411 ?_
  refine va_sld C.1 C.2.1 hX0 hbl hbA hw.2.2.2.1 (hin 1 (by decide)) dL_law_412 ?_
  refine lv_aload_n C.1 C.2.1 dL_law_413 rfl (lv_at hl 0 rfl) ?_
  refine lv_iload_n C.1 C.2.1 dL_law_414 rfl (lv_at hl 3 rfl) ?_
  refine lv_iconst (v := 2) C.1 C.2.1 dL_law_415 (by decide) ?_
  refine lv_iadd C.1 C.2.1 dL_law_416 ?_
  refine va_sld C.1 C.2.1 hX0 hbl hbA hw.2.2.2.1 (hin 2 (by decide)) dL_law_417 ?_
  refine lv_aload_n C.1 C.2.1 dL_law_418 rfl (lv_at hl 0 rfl) ?_
  refine lv_iload_n C.1 C.2.1 dL_law_419 rfl (lv_at hl 3 rfl) ?_
  refine lv_iconst (v := 3) C.1 C.2.1 dL_law_420 (by decide) ?_
  refine lv_iadd C.1 C.2.1 dL_law_421 ?_
  refine va_sld C.1 C.2.1 hX0 hbl hbA hw.2.2.2.1 (hin 3 (by decide)) dL_law_422 ?_
  refine lv_aload_n C.1 C.2.1 dL_law_423 rfl (lv_at hl 0 rfl) ?_
  refine lv_iload_n C.1 C.2.1 dL_law_424 rfl (lv_at hl 3 rfl) ?_
  refine lv_iconst (v := 4) C.1 C.2.1 dL_law_425 (by decide) ?_
  refine lv_iadd C.1 C.2.1 dL_law_426 ?_
  refine va_sld C.1 C.2.1 hX0 hbl hbA hw.2.2.2.1 (hin 4 (by decide)) dL_law_427 ?_
  obtain ⟨r, M1, M2, e1, e2, hI⟩ := hst (xs (x3 + 1).toNatClampNeg) (xs (x3 + 2).toNatClampNeg) (xs (x3 + 3).toNatClampNeg) (xs (x3 + 4).toNatClampNeg) M hM
  refine ea_runi2 hw (ea_runV (n := 4) C hw (hX 0 10 rfl) (by decide) (by decide) rfl (As := [.int (xs (x3 + 1).toNatClampNeg), .int (xs (x3 + 2).toNatClampNeg), .int (xs (x3 + 3).toNatClampNeg), .int (xs (x3 + 4).toNatClampNeg)]) (rest := []) (mX10_thread (l := l) (E := E) (ids := ids) hX e1) wc_X10_thread wi_RX10 wlL_46 wvL_X10_thread wzL_X10_thread (by decide +kernel) (by decide) rfl hl.1 rfl (Nat.le_of_ble_eq_true rfl) dL_law_428 hcs) (fun H locs hw => ?_)
  refine lv_aload_n C.1 C.2.1 dL_law_431 rfl (lv_at hl 2 rfl) ?_
  refine lv_aload_n C.1 C.2.1 dL_law_432 rfl (lv_at hl 0 rfl) ?_
  refine lv_iload_n C.1 C.2.1 dL_law_433 rfl (lv_at hl 3 rfl) ?_
  refine lv_iconst (v := 1) C.1 C.2.1 dL_law_434 (by decide) ?_
  refine lv_iadd C.1 C.2.1 dL_law_435 ?_
  refine va_sld C.1 C.2.1 hX0 hbl hbA hw.2.2.2.1 (hin 1 (by decide)) dL_law_436 ?_
  refine lv_aload_n C.1 C.2.1 dL_law_437 rfl (lv_at hl 0 rfl) ?_
  refine lv_iload_n C.1 C.2.1 dL_law_438 rfl (lv_at hl 3 rfl) ?_
  refine lv_iconst (v := 2) C.1 C.2.1 dL_law_439 (by decide) ?_
  refine lv_iadd C.1 C.2.1 dL_law_440 ?_
  refine va_sld C.1 C.2.1 hX0 hbl hbA hw.2.2.2.1 (hin 2 (by decide)) dL_law_441 ?_
  refine lv_aload_n C.1 C.2.1 dL_law_442 rfl (lv_at hl 0 rfl) ?_
  refine lv_iload_n C.1 C.2.1 dL_law_443 rfl (lv_at hl 3 rfl) ?_
  refine lv_iconst (v := 3) C.1 C.2.1 dL_law_444 (by decide) ?_
  refine lv_iadd C.1 C.2.1 dL_law_445 ?_
  refine va_sld C.1 C.2.1 hX0 hbl hbA hw.2.2.2.1 (hin 3 (by decide)) dL_law_446 ?_
  refine lv_aload_n C.1 C.2.1 dL_law_447 rfl (lv_at hl 0 rfl) ?_
  refine lv_iload_n C.1 C.2.1 dL_law_448 rfl (lv_at hl 3 rfl) ?_
  refine lv_iconst (v := 4) C.1 C.2.1 dL_law_449 (by decide) ?_
  refine lv_iadd C.1 C.2.1 dL_law_450 ?_
  refine va_sld C.1 C.2.1 hX0 hbl hbA hw.2.2.2.1 (hin 4 (by decide)) dL_law_451 ?_
  refine ea_runi2 hw (ea_runV (n := 4) C hw (hY 100 11 rfl) (by decide) (by decide) rfl (As := [.int (xs (x3 + 1).toNatClampNeg), .int (xs (x3 + 2).toNatClampNeg), .int (xs (x3 + 3).toNatClampNeg), .int (xs (x3 + 4).toNatClampNeg)]) (rest := [.int r]) (mX11_thread (l := l) (E := E) (ids := ids) hY e2) wc_X11_thread wi_RX11 wlL_49 wvL_X11_thread wzL_X11_thread (by decide +kernel) (by decide) rfl hl.1 rfl (Nat.le_of_ble_eq_true rfl) dL_law_452 hcs) (fun H locs hw => ?_)
  exact lv_icmp_eq (tgt := 1684) C.1 C.2.1 dL_law_455 (by decide) (fun _ => kk _ _ _ _ hI hw hl) (fun q => absurd rfl q)
set_option maxHeartbeats 4000000 in
set_option maxRecDepth 20000 in
theorem law_8 (C : ea_C p s m args meth c code 4 ret RL) (hX : ea_X ids) (hY : ea_Y ids) (hX0 : va_X b L xs s s.heap) (hbl : b < s.heap.size) (hbA : ¬ ea_Ad E ids b) (hcs : cells ≤ room_1.cells ∧ slots ≤ room_1.slots) (hin : ∀ k : Int32, (1 ≤ k ∧ k ≤ 6) → vp_in (x3 + k) L) (hw : ea_w E ids M s H locs) (hl : lv_has ls 4 [(0, .ref b), (1, .ref (E.1 0)), (2, .ref (E.1 100)), (3, .int x3)]) (hst : ∀ (a0 : Int32) (a1 : Int32) (a2 : Int32), ea_st Inv (fX10_colour a0 a1 a2) (fX11_colour a0 a1 a2)) (hM : Inv M)
    (kk : ∀ (M : eM) (H : Heap) (locs : List Loc) (ls : Array Slot), Inv M → ea_w E ids M s H locs → lv_has ls 4 [(0, .ref b), (1, .ref (E.1 0)), (2, .ref (E.1 100)), (3, .int x3)] → W p l e room_1 s m args below meth c H locs cells slots Q (F0 m 1684 ls [])) : W p l e room_1 s m args below meth c H locs cells slots Q (F0 m 460 ls []) := by
  refine lv_aload_n C.1 C.2.1 dL_law_460 rfl (lv_at hl 1 rfl) ?_
  refine lv_aload_n C.1 C.2.1 dL_law_461 rfl (lv_at hl 0 rfl) ?_
  refine lv_iload_n C.1 C.2.1 dL_law_462 rfl (lv_at hl 3 rfl) ?_
  refine lv_iconst (v := 1) C.1 C.2.1 dL_law_463 (by decide) ?_
  refine lv_iadd C.1 C.2.1 dL_law_464 ?_
  refine va_sld C.1 C.2.1 hX0 hbl hbA hw.2.2.2.1 (hin 1 (by decide)) dL_law_465 ?_
  refine lv_aload_n C.1 C.2.1 dL_law_466 rfl (lv_at hl 0 rfl) ?_
  refine lv_iload_n C.1 C.2.1 dL_law_467 rfl (lv_at hl 3 rfl) ?_
  refine lv_iconst (v := 2) C.1 C.2.1 dL_law_468 (by decide) ?_
  refine lv_iadd C.1 C.2.1 dL_law_469 ?_
  refine va_sld C.1 C.2.1 hX0 hbl hbA hw.2.2.2.1 (hin 2 (by decide)) dL_law_470 ?_
  refine lv_aload_n C.1 C.2.1 dL_law_471 rfl (lv_at hl 0 rfl) ?_
  refine lv_iload_n C.1 C.2.1 dL_law_472 rfl (lv_at hl 3 rfl) ?_
  refine lv_iconst (v := 3) C.1 C.2.1 dL_law_473 (by decide) ?_
  refine lv_iadd C.1 C.2.1 dL_law_474 ?_
  refine va_sld C.1 C.2.1 hX0 hbl hbA hw.2.2.2.1 (hin 3 (by decide)) dL_law_475 ?_
  obtain ⟨r, M1, M2, e1, e2, hI⟩ := hst (xs (x3 + 1).toNatClampNeg) (xs (x3 + 2).toNatClampNeg) (xs (x3 + 3).toNatClampNeg) M hM
  refine ea_runi2 hw (ea_runV (n := 3) C hw (hX 0 10 rfl) (by decide) (by decide) rfl (As := [.int (xs (x3 + 1).toNatClampNeg), .int (xs (x3 + 2).toNatClampNeg), .int (xs (x3 + 3).toNatClampNeg)]) (rest := []) (mX10_colour (l := l) (E := E) (ids := ids) hX e1) wc_X10_colour wi_RX10 wlL_50 wvL_X10_colour wzL_X10_colour (by decide +kernel) (by decide) rfl hl.1 rfl (Nat.le_of_ble_eq_true rfl) dL_law_476 hcs) (fun H locs hw => ?_)
  refine lv_aload_n C.1 C.2.1 dL_law_479 rfl (lv_at hl 2 rfl) ?_
  refine lv_aload_n C.1 C.2.1 dL_law_480 rfl (lv_at hl 0 rfl) ?_
  refine lv_iload_n C.1 C.2.1 dL_law_481 rfl (lv_at hl 3 rfl) ?_
  refine lv_iconst (v := 1) C.1 C.2.1 dL_law_482 (by decide) ?_
  refine lv_iadd C.1 C.2.1 dL_law_483 ?_
  refine va_sld C.1 C.2.1 hX0 hbl hbA hw.2.2.2.1 (hin 1 (by decide)) dL_law_484 ?_
  refine lv_aload_n C.1 C.2.1 dL_law_485 rfl (lv_at hl 0 rfl) ?_
  refine lv_iload_n C.1 C.2.1 dL_law_486 rfl (lv_at hl 3 rfl) ?_
  refine lv_iconst (v := 2) C.1 C.2.1 dL_law_487 (by decide) ?_
  refine lv_iadd C.1 C.2.1 dL_law_488 ?_
  refine va_sld C.1 C.2.1 hX0 hbl hbA hw.2.2.2.1 (hin 2 (by decide)) dL_law_489 ?_
  refine lv_aload_n C.1 C.2.1 dL_law_490 rfl (lv_at hl 0 rfl) ?_
  refine lv_iload_n C.1 C.2.1 dL_law_491 rfl (lv_at hl 3 rfl) ?_
  refine lv_iconst (v := 3) C.1 C.2.1 dL_law_492 (by decide) ?_
  refine lv_iadd C.1 C.2.1 dL_law_493 ?_
  refine va_sld C.1 C.2.1 hX0 hbl hbA hw.2.2.2.1 (hin 3 (by decide)) dL_law_494 ?_
  refine ea_runi2 hw (ea_runV (n := 3) C hw (hY 100 11 rfl) (by decide) (by decide) rfl (As := [.int (xs (x3 + 1).toNatClampNeg), .int (xs (x3 + 2).toNatClampNeg), .int (xs (x3 + 3).toNatClampNeg)]) (rest := [.int r]) (mX11_colour (l := l) (E := E) (ids := ids) hY e2) wc_X11_colour wi_RX11 wlL_54 wvL_X11_colour wzL_X11_colour (by decide +kernel) (by decide) rfl hl.1 rfl (Nat.le_of_ble_eq_true rfl) dL_law_495 hcs) (fun H locs hw => ?_)
  exact lv_icmp_eq (tgt := 1684) C.1 C.2.1 dL_law_498 (by decide) (fun _ => kk _ _ _ _ hI hw hl) (fun q => absurd rfl q)
set_option maxHeartbeats 4000000 in
set_option maxRecDepth 20000 in
theorem law_9 (C : ea_C p s m args meth c code 4 ret RL) (hX : ea_X ids) (hY : ea_Y ids) (hX0 : va_X b L xs s s.heap) (hbl : b < s.heap.size) (hbA : ¬ ea_Ad E ids b) (hcs : cells ≤ room_1.cells ∧ slots ≤ room_1.slots) (hin : ∀ k : Int32, (1 ≤ k ∧ k ≤ 6) → vp_in (x3 + k) L) (hw : ea_w E ids M s H locs) (hl : lv_has ls 4 [(0, .ref b), (1, .ref (E.1 0)), (2, .ref (E.1 100)), (3, .int x3)]) (hst : ∀ (a0 : Int32) (a1 : Int32) (a2 : Int32) (a3 : Int32) (a4 : Int32) (a5 : Int32), ea_st Inv (fX10_look a0 a1 a2 a3 a4 a5) (fX11_look a0 a1 a2 a3 a4 a5)) (hM : Inv M)
    (kk : ∀ (M : eM) (H : Heap) (locs : List Loc) (ls : Array Slot), Inv M → ea_w E ids M s H locs → lv_has ls 4 [(0, .ref b), (1, .ref (E.1 0)), (2, .ref (E.1 100)), (3, .int x3)] → W p l e room_1 s m args below meth c H locs cells slots Q (F0 m 1684 ls [])) : W p l e room_1 s m args below meth c H locs cells slots Q (F0 m 503 ls []) := by
  refine lv_aload_n C.1 C.2.1 dL_law_503 rfl (lv_at hl 1 rfl) ?_
  refine lv_aload_n C.1 C.2.1 dL_law_504 rfl (lv_at hl 0 rfl) ?_
  refine lv_iload_n C.1 C.2.1 dL_law_505 rfl (lv_at hl 3 rfl) ?_
  refine lv_iconst (v := 1) C.1 C.2.1 dL_law_506 (by decide) ?_
  refine lv_iadd C.1 C.2.1 dL_law_507 ?_
  refine va_sld C.1 C.2.1 hX0 hbl hbA hw.2.2.2.1 (hin 1 (by decide)) dL_law_508 ?_
  refine lv_aload_n C.1 C.2.1 dL_law_509 rfl (lv_at hl 0 rfl) ?_
  refine lv_iload_n C.1 C.2.1 dL_law_510 rfl (lv_at hl 3 rfl) ?_
  refine lv_iconst (v := 2) C.1 C.2.1 dL_law_511 (by decide) ?_
  refine lv_iadd C.1 C.2.1 dL_law_512 ?_
  refine va_sld C.1 C.2.1 hX0 hbl hbA hw.2.2.2.1 (hin 2 (by decide)) dL_law_513 ?_
  refine lv_aload_n C.1 C.2.1 dL_law_514 rfl (lv_at hl 0 rfl) ?_
  refine lv_iload_n C.1 C.2.1 dL_law_515 rfl (lv_at hl 3 rfl) ?_
  refine lv_iconst (v := 3) C.1 C.2.1 dL_law_516 (by decide) ?_
  refine lv_iadd C.1 C.2.1 dL_law_517 ?_
  refine va_sld C.1 C.2.1 hX0 hbl hbA hw.2.2.2.1 (hin 3 (by decide)) dL_law_518 ?_
  refine lv_aload_n C.1 C.2.1 dL_law_519 rfl (lv_at hl 0 rfl) ?_
  refine lv_iload_n C.1 C.2.1 dL_law_520 rfl (lv_at hl 3 rfl) ?_
  refine lv_iconst (v := 4) C.1 C.2.1 dL_law_521 (by decide) ?_
  refine lv_iadd C.1 C.2.1 dL_law_522 ?_
  refine va_sld C.1 C.2.1 hX0 hbl hbA hw.2.2.2.1 (hin 4 (by decide)) dL_law_523 ?_
  refine lv_aload_n C.1 C.2.1 dL_law_524 rfl (lv_at hl 0 rfl) ?_
  refine lv_iload_n C.1 C.2.1 dL_law_525 rfl (lv_at hl 3 rfl) ?_
  refine lv_iconst (v := 5) C.1 C.2.1 dL_law_526 (by decide) ?_
  refine lv_iadd C.1 C.2.1 dL_law_527 ?_
  refine va_sld C.1 C.2.1 hX0 hbl hbA hw.2.2.2.1 (hin 5 (by decide)) dL_law_528 ?_
  refine lv_aload_n C.1 C.2.1 dL_law_529 rfl (lv_at hl 0 rfl) ?_
  refine lv_iload_n C.1 C.2.1 dL_law_530 rfl (lv_at hl 3 rfl) ?_
  refine lv_bipush (v := 6) C.1 C.2.1 dL_law_531 (by decide) ?_
  refine lv_iadd C.1 C.2.1 dL_law_533 ?_
  refine va_sld C.1 C.2.1 hX0 hbl hbA hw.2.2.2.1 (hin 6 (by decide)) dL_law_534 ?_
  obtain ⟨r, M1, M2, e1, e2, hI⟩ := hst (xs (x3 + 1).toNatClampNeg) (xs (x3 + 2).toNatClampNeg) (xs (x3 + 3).toNatClampNeg) (xs (x3 + 4).toNatClampNeg) (xs (x3 + 5).toNatClampNeg) (xs (x3 + 6).toNatClampNeg) M hM
  refine ea_runi2 hw (ea_runV (n := 6) C hw (hX 0 10 rfl) (by decide) (by decide) rfl (As := [.int (xs (x3 + 1).toNatClampNeg), .int (xs (x3 + 2).toNatClampNeg), .int (xs (x3 + 3).toNatClampNeg), .int (xs (x3 + 4).toNatClampNeg), .int (xs (x3 + 5).toNatClampNeg), .int (xs (x3 + 6).toNatClampNeg)]) (rest := []) (mX10_look (l := l) (E := E) (ids := ids) hX e1) wc_X10_look wi_RX10 wlL_55 wvL_X10_look wzL_X10_look (by decide +kernel) (by decide) rfl hl.1 rfl (Nat.le_of_ble_eq_true rfl) dL_law_535 hcs) (fun H locs hw => ?_)
  refine lv_aload_n C.1 C.2.1 dL_law_538 rfl (lv_at hl 2 rfl) ?_
  refine lv_aload_n C.1 C.2.1 dL_law_539 rfl (lv_at hl 0 rfl) ?_
  refine lv_iload_n C.1 C.2.1 dL_law_540 rfl (lv_at hl 3 rfl) ?_
  refine lv_iconst (v := 1) C.1 C.2.1 dL_law_541 (by decide) ?_
  refine lv_iadd C.1 C.2.1 dL_law_542 ?_
  refine va_sld C.1 C.2.1 hX0 hbl hbA hw.2.2.2.1 (hin 1 (by decide)) dL_law_543 ?_
  refine lv_aload_n C.1 C.2.1 dL_law_544 rfl (lv_at hl 0 rfl) ?_
  refine lv_iload_n C.1 C.2.1 dL_law_545 rfl (lv_at hl 3 rfl) ?_
  refine lv_iconst (v := 2) C.1 C.2.1 dL_law_546 (by decide) ?_
  refine lv_iadd C.1 C.2.1 dL_law_547 ?_
  refine va_sld C.1 C.2.1 hX0 hbl hbA hw.2.2.2.1 (hin 2 (by decide)) dL_law_548 ?_
  refine lv_aload_n C.1 C.2.1 dL_law_549 rfl (lv_at hl 0 rfl) ?_
  refine lv_iload_n C.1 C.2.1 dL_law_550 rfl (lv_at hl 3 rfl) ?_
  refine lv_iconst (v := 3) C.1 C.2.1 dL_law_551 (by decide) ?_
  refine lv_iadd C.1 C.2.1 dL_law_552 ?_
  refine va_sld C.1 C.2.1 hX0 hbl hbA hw.2.2.2.1 (hin 3 (by decide)) dL_law_553 ?_
  refine lv_aload_n C.1 C.2.1 dL_law_554 rfl (lv_at hl 0 rfl) ?_
  refine lv_iload_n C.1 C.2.1 dL_law_555 rfl (lv_at hl 3 rfl) ?_
  refine lv_iconst (v := 4) C.1 C.2.1 dL_law_556 (by decide) ?_
  refine lv_iadd C.1 C.2.1 dL_law_557 ?_
  refine va_sld C.1 C.2.1 hX0 hbl hbA hw.2.2.2.1 (hin 4 (by decide)) dL_law_558 ?_
  refine lv_aload_n C.1 C.2.1 dL_law_559 rfl (lv_at hl 0 rfl) ?_
  refine lv_iload_n C.1 C.2.1 dL_law_560 rfl (lv_at hl 3 rfl) ?_
  refine lv_iconst (v := 5) C.1 C.2.1 dL_law_561 (by decide) ?_
  refine lv_iadd C.1 C.2.1 dL_law_562 ?_
  refine va_sld C.1 C.2.1 hX0 hbl hbA hw.2.2.2.1 (hin 5 (by decide)) dL_law_563 ?_
  refine lv_aload_n C.1 C.2.1 dL_law_564 rfl (lv_at hl 0 rfl) ?_
  refine lv_iload_n C.1 C.2.1 dL_law_565 rfl (lv_at hl 3 rfl) ?_
  refine lv_bipush (v := 6) C.1 C.2.1 dL_law_566 (by decide) ?_
  refine lv_iadd C.1 C.2.1 dL_law_568 ?_
  refine va_sld C.1 C.2.1 hX0 hbl hbA hw.2.2.2.1 (hin 6 (by decide)) dL_law_569 ?_
  refine ea_runi2 hw (ea_runV (n := 6) C hw (hY 100 11 rfl) (by decide) (by decide) rfl (As := [.int (xs (x3 + 1).toNatClampNeg), .int (xs (x3 + 2).toNatClampNeg), .int (xs (x3 + 3).toNatClampNeg), .int (xs (x3 + 4).toNatClampNeg), .int (xs (x3 + 5).toNatClampNeg), .int (xs (x3 + 6).toNatClampNeg)]) (rest := [.int r]) (mX11_look (l := l) (E := E) (ids := ids) hY e2) wc_X11_look wi_RX11 wlL_59 wvL_X11_look wzL_X11_look (by decide +kernel) (by decide) rfl hl.1 rfl (Nat.le_of_ble_eq_true rfl) dL_law_570 hcs) (fun H locs hw => ?_)
  exact lv_icmp_eq (tgt := 1684) C.1 C.2.1 dL_law_573 (by decide) (fun _ => kk _ _ _ _ hI hw hl) (fun q => absurd rfl q)
set_option maxHeartbeats 4000000 in
set_option maxRecDepth 20000 in
theorem law_10 (C : ea_C p s m args meth c code 4 ret RL) (hX : ea_X ids) (hY : ea_Y ids) (hX0 : va_X b L xs s s.heap) (hbl : b < s.heap.size) (hbA : ¬ ea_Ad E ids b) (hcs : cells ≤ room_1.cells ∧ slots ≤ room_1.slots) (hin : ∀ k : Int32, (1 ≤ k ∧ k ≤ 6) → vp_in (x3 + k) L) (hw : ea_w E ids M s H locs) (hl : lv_has ls 4 [(0, .ref b), (1, .ref (E.1 0)), (2, .ref (E.1 100)), (3, .int x3)]) (hst : ∀ (a0 : Int32) (a1 : Int32) (a2 : Int32), ea_st Inv (fX10_gone a0 a1 a2) (fX11_gone a0 a1 a2)) (hM : Inv M)
    (kk : ∀ (M : eM) (H : Heap) (locs : List Loc) (ls : Array Slot), Inv M → ea_w E ids M s H locs → lv_has ls 4 [(0, .ref b), (1, .ref (E.1 0)), (2, .ref (E.1 100)), (3, .int x3)] → W p l e room_1 s m args below meth c H locs cells slots Q (F0 m 1684 ls [])) : W p l e room_1 s m args below meth c H locs cells slots Q (F0 m 578 ls []) := by
  refine lv_aload_n C.1 C.2.1 dL_law_578 rfl (lv_at hl 1 rfl) ?_
  refine lv_aload_n C.1 C.2.1 dL_law_579 rfl (lv_at hl 0 rfl) ?_
  refine lv_iload_n C.1 C.2.1 dL_law_580 rfl (lv_at hl 3 rfl) ?_
  refine lv_iconst (v := 1) C.1 C.2.1 dL_law_581 (by decide) ?_
  refine lv_iadd C.1 C.2.1 dL_law_582 ?_
  refine va_sld C.1 C.2.1 hX0 hbl hbA hw.2.2.2.1 (hin 1 (by decide)) dL_law_583 ?_
  refine lv_aload_n C.1 C.2.1 dL_law_584 rfl (lv_at hl 0 rfl) ?_
  refine lv_iload_n C.1 C.2.1 dL_law_585 rfl (lv_at hl 3 rfl) ?_
  refine lv_iconst (v := 2) C.1 C.2.1 dL_law_586 (by decide) ?_
  refine lv_iadd C.1 C.2.1 dL_law_587 ?_
  refine va_sld C.1 C.2.1 hX0 hbl hbA hw.2.2.2.1 (hin 2 (by decide)) dL_law_588 ?_
  refine lv_aload_n C.1 C.2.1 dL_law_589 rfl (lv_at hl 0 rfl) ?_
  refine lv_iload_n C.1 C.2.1 dL_law_590 rfl (lv_at hl 3 rfl) ?_
  refine lv_iconst (v := 3) C.1 C.2.1 dL_law_591 (by decide) ?_
  refine lv_iadd C.1 C.2.1 dL_law_592 ?_
  refine va_sld C.1 C.2.1 hX0 hbl hbA hw.2.2.2.1 (hin 3 (by decide)) dL_law_593 ?_
  obtain ⟨r, M1, M2, e1, e2, hI⟩ := hst (xs (x3 + 1).toNatClampNeg) (xs (x3 + 2).toNatClampNeg) (xs (x3 + 3).toNatClampNeg) M hM
  refine ea_runi2 hw (ea_runV (n := 3) C hw (hX 0 10 rfl) (by decide) (by decide) rfl (As := [.int (xs (x3 + 1).toNatClampNeg), .int (xs (x3 + 2).toNatClampNeg), .int (xs (x3 + 3).toNatClampNeg)]) (rest := []) (mX10_gone (l := l) (E := E) (ids := ids) hX e1) wc_X10_gone wi_RX10 wlL_60 wvL_X10_gone wzL_X10_gone (by decide +kernel) (by decide) rfl hl.1 rfl (Nat.le_of_ble_eq_true rfl) dL_law_594 hcs) (fun H locs hw => ?_)
  refine lv_aload_n C.1 C.2.1 dL_law_597 rfl (lv_at hl 2 rfl) ?_
  refine lv_aload_n C.1 C.2.1 dL_law_598 rfl (lv_at hl 0 rfl) ?_
  refine lv_iload_n C.1 C.2.1 dL_law_599 rfl (lv_at hl 3 rfl) ?_
  refine lv_iconst (v := 1) C.1 C.2.1 dL_law_600 (by decide) ?_
  refine lv_iadd C.1 C.2.1 dL_law_601 ?_
  refine va_sld C.1 C.2.1 hX0 hbl hbA hw.2.2.2.1 (hin 1 (by decide)) dL_law_602 ?_
  refine lv_aload_n C.1 C.2.1 dL_law_603 rfl (lv_at hl 0 rfl) ?_
  refine lv_iload_n C.1 C.2.1 dL_law_604 rfl (lv_at hl 3 rfl) ?_
  refine lv_iconst (v := 2) C.1 C.2.1 dL_law_605 (by decide) ?_
  refine lv_iadd C.1 C.2.1 dL_law_606 ?_
  refine va_sld C.1 C.2.1 hX0 hbl hbA hw.2.2.2.1 (hin 2 (by decide)) dL_law_607 ?_
  refine lv_aload_n C.1 C.2.1 dL_law_608 rfl (lv_at hl 0 rfl) ?_
  refine lv_iload_n C.1 C.2.1 dL_law_609 rfl (lv_at hl 3 rfl) ?_
  refine lv_iconst (v := 3) C.1 C.2.1 dL_law_610 (by decide) ?_
  refine lv_iadd C.1 C.2.1 dL_law_611 ?_
  refine va_sld C.1 C.2.1 hX0 hbl hbA hw.2.2.2.1 (hin 3 (by decide)) dL_law_612 ?_
  refine ea_runi2 hw (ea_runV (n := 3) C hw (hY 100 11 rfl) (by decide) (by decide) rfl (As := [.int (xs (x3 + 1).toNatClampNeg), .int (xs (x3 + 2).toNatClampNeg), .int (xs (x3 + 3).toNatClampNeg)]) (rest := [.int r]) (mX11_gone (l := l) (E := E) (ids := ids) hY e2) wc_X11_gone wi_RX11 wlL_63 wvL_X11_gone wzL_X11_gone (by decide +kernel) (by decide) rfl hl.1 rfl (Nat.le_of_ble_eq_true rfl) dL_law_613 hcs) (fun H locs hw => ?_)
  exact lv_icmp_eq (tgt := 1684) C.1 C.2.1 dL_law_616 (by decide) (fun _ => kk _ _ _ _ hI hw hl) (fun q => absurd rfl q)
set_option maxHeartbeats 4000000 in
set_option maxRecDepth 20000 in
theorem law_11 (C : ea_C p s m args meth c code 4 ret RL) (hX : ea_X ids) (hY : ea_Y ids) (hX0 : va_X b L xs s s.heap) (hbl : b < s.heap.size) (hbA : ¬ ea_Ad E ids b) (hcs : cells ≤ room_1.cells ∧ slots ≤ room_1.slots) (hin : ∀ k : Int32, (1 ≤ k ∧ k ≤ 6) → vp_in (x3 + k) L) (hw : ea_w E ids M s H locs) (hl : lv_has ls 4 [(0, .ref b), (1, .ref (E.1 0)), (2, .ref (E.1 100)), (3, .int x3)]) (hst : ∀ (a0 : Int32) (a1 : Int32) (a2 : Int32) (a3 : Int32) (a4 : Int32) (a5 : Int32), ea_st Inv (fX10_attempt a0 a1 a2 a3 a4 a5) (fX11_attempt a0 a1 a2 a3 a4 a5)) (hM : Inv M)
    (kk : ∀ (M : eM) (H : Heap) (locs : List Loc) (ls : Array Slot), Inv M → ea_w E ids M s H locs → lv_has ls 4 [(0, .ref b), (1, .ref (E.1 0)), (2, .ref (E.1 100)), (3, .int x3)] → W p l e room_1 s m args below meth c H locs cells slots Q (F0 m 1684 ls [])) : W p l e room_1 s m args below meth c H locs cells slots Q (F0 m 621 ls []) := by
  refine lv_aload_n C.1 C.2.1 dL_law_621 rfl (lv_at hl 1 rfl) ?_
  refine lv_aload_n C.1 C.2.1 dL_law_622 rfl (lv_at hl 0 rfl) ?_
  refine lv_iload_n C.1 C.2.1 dL_law_623 rfl (lv_at hl 3 rfl) ?_
  refine lv_iconst (v := 1) C.1 C.2.1 dL_law_624 (by decide) ?_
  refine lv_iadd C.1 C.2.1 dL_law_625 ?_
  refine va_sld C.1 C.2.1 hX0 hbl hbA hw.2.2.2.1 (hin 1 (by decide)) dL_law_626 ?_
  refine lv_aload_n C.1 C.2.1 dL_law_627 rfl (lv_at hl 0 rfl) ?_
  refine lv_iload_n C.1 C.2.1 dL_law_628 rfl (lv_at hl 3 rfl) ?_
  refine lv_iconst (v := 2) C.1 C.2.1 dL_law_629 (by decide) ?_
  refine lv_iadd C.1 C.2.1 dL_law_630 ?_
  refine va_sld C.1 C.2.1 hX0 hbl hbA hw.2.2.2.1 (hin 2 (by decide)) dL_law_631 ?_
  refine lv_aload_n C.1 C.2.1 dL_law_632 rfl (lv_at hl 0 rfl) ?_
  refine lv_iload_n C.1 C.2.1 dL_law_633 rfl (lv_at hl 3 rfl) ?_
  refine lv_iconst (v := 3) C.1 C.2.1 dL_law_634 (by decide) ?_
  refine lv_iadd C.1 C.2.1 dL_law_635 ?_
  refine va_sld C.1 C.2.1 hX0 hbl hbA hw.2.2.2.1 (hin 3 (by decide)) dL_law_636 ?_
  refine lv_aload_n C.1 C.2.1 dL_law_637 rfl (lv_at hl 0 rfl) ?_
  refine lv_iload_n C.1 C.2.1 dL_law_638 rfl (lv_at hl 3 rfl) ?_
  refine lv_iconst (v := 4) C.1 C.2.1 dL_law_639 (by decide) ?_
  refine lv_iadd C.1 C.2.1 dL_law_640 ?_
  refine va_sld C.1 C.2.1 hX0 hbl hbA hw.2.2.2.1 (hin 4 (by decide)) dL_law_641 ?_
  refine lv_aload_n C.1 C.2.1 dL_law_642 rfl (lv_at hl 0 rfl) ?_
  refine lv_iload_n C.1 C.2.1 dL_law_643 rfl (lv_at hl 3 rfl) ?_
  refine lv_iconst (v := 5) C.1 C.2.1 dL_law_644 (by decide) ?_
  refine lv_iadd C.1 C.2.1 dL_law_645 ?_
  refine va_sld C.1 C.2.1 hX0 hbl hbA hw.2.2.2.1 (hin 5 (by decide)) dL_law_646 ?_
  refine lv_aload_n C.1 C.2.1 dL_law_647 rfl (lv_at hl 0 rfl) ?_
  refine lv_iload_n C.1 C.2.1 dL_law_648 rfl (lv_at hl 3 rfl) ?_
  refine lv_bipush (v := 6) C.1 C.2.1 dL_law_649 (by decide) ?_
  refine lv_iadd C.1 C.2.1 dL_law_651 ?_
  refine va_sld C.1 C.2.1 hX0 hbl hbA hw.2.2.2.1 (hin 6 (by decide)) dL_law_652 ?_
  obtain ⟨r, M1, M2, e1, e2, hI⟩ := hst (xs (x3 + 1).toNatClampNeg) (xs (x3 + 2).toNatClampNeg) (xs (x3 + 3).toNatClampNeg) (xs (x3 + 4).toNatClampNeg) (xs (x3 + 5).toNatClampNeg) (xs (x3 + 6).toNatClampNeg) M hM
  refine ea_runi2 hw (ea_runV (n := 6) C hw (hX 0 10 rfl) (by decide) (by decide) rfl (As := [.int (xs (x3 + 1).toNatClampNeg), .int (xs (x3 + 2).toNatClampNeg), .int (xs (x3 + 3).toNatClampNeg), .int (xs (x3 + 4).toNatClampNeg), .int (xs (x3 + 5).toNatClampNeg), .int (xs (x3 + 6).toNatClampNeg)]) (rest := []) (mX10_attempt (l := l) (E := E) (ids := ids) hX e1) wc_X10_attempt wi_RX10 wlL_64 wvL_X10_attempt wzL_X10_attempt (by decide +kernel) (by decide) rfl hl.1 rfl (Nat.le_of_ble_eq_true rfl) dL_law_653 hcs) (fun H locs hw => ?_)
  refine lv_aload_n C.1 C.2.1 dL_law_656 rfl (lv_at hl 2 rfl) ?_
  refine lv_aload_n C.1 C.2.1 dL_law_657 rfl (lv_at hl 0 rfl) ?_
  refine lv_iload_n C.1 C.2.1 dL_law_658 rfl (lv_at hl 3 rfl) ?_
  refine lv_iconst (v := 1) C.1 C.2.1 dL_law_659 (by decide) ?_
  refine lv_iadd C.1 C.2.1 dL_law_660 ?_
  refine va_sld C.1 C.2.1 hX0 hbl hbA hw.2.2.2.1 (hin 1 (by decide)) dL_law_661 ?_
  refine lv_aload_n C.1 C.2.1 dL_law_662 rfl (lv_at hl 0 rfl) ?_
  refine lv_iload_n C.1 C.2.1 dL_law_663 rfl (lv_at hl 3 rfl) ?_
  refine lv_iconst (v := 2) C.1 C.2.1 dL_law_664 (by decide) ?_
  refine lv_iadd C.1 C.2.1 dL_law_665 ?_
  refine va_sld C.1 C.2.1 hX0 hbl hbA hw.2.2.2.1 (hin 2 (by decide)) dL_law_666 ?_
  refine lv_aload_n C.1 C.2.1 dL_law_667 rfl (lv_at hl 0 rfl) ?_
  refine lv_iload_n C.1 C.2.1 dL_law_668 rfl (lv_at hl 3 rfl) ?_
  refine lv_iconst (v := 3) C.1 C.2.1 dL_law_669 (by decide) ?_
  refine lv_iadd C.1 C.2.1 dL_law_670 ?_
  refine va_sld C.1 C.2.1 hX0 hbl hbA hw.2.2.2.1 (hin 3 (by decide)) dL_law_671 ?_
  refine lv_aload_n C.1 C.2.1 dL_law_672 rfl (lv_at hl 0 rfl) ?_
  refine lv_iload_n C.1 C.2.1 dL_law_673 rfl (lv_at hl 3 rfl) ?_
  refine lv_iconst (v := 4) C.1 C.2.1 dL_law_674 (by decide) ?_
  refine lv_iadd C.1 C.2.1 dL_law_675 ?_
  refine va_sld C.1 C.2.1 hX0 hbl hbA hw.2.2.2.1 (hin 4 (by decide)) dL_law_676 ?_
  refine lv_aload_n C.1 C.2.1 dL_law_677 rfl (lv_at hl 0 rfl) ?_
  refine lv_iload_n C.1 C.2.1 dL_law_678 rfl (lv_at hl 3 rfl) ?_
  refine lv_iconst (v := 5) C.1 C.2.1 dL_law_679 (by decide) ?_
  refine lv_iadd C.1 C.2.1 dL_law_680 ?_
  refine va_sld C.1 C.2.1 hX0 hbl hbA hw.2.2.2.1 (hin 5 (by decide)) dL_law_681 ?_
  refine lv_aload_n C.1 C.2.1 dL_law_682 rfl (lv_at hl 0 rfl) ?_
  refine lv_iload_n C.1 C.2.1 dL_law_683 rfl (lv_at hl 3 rfl) ?_
  refine lv_bipush (v := 6) C.1 C.2.1 dL_law_684 (by decide) ?_
  refine lv_iadd C.1 C.2.1 dL_law_686 ?_
  refine va_sld C.1 C.2.1 hX0 hbl hbA hw.2.2.2.1 (hin 6 (by decide)) dL_law_687 ?_
  refine ea_runi2 hw (ea_runV (n := 6) C hw (hY 100 11 rfl) (by decide) (by decide) rfl (As := [.int (xs (x3 + 1).toNatClampNeg), .int (xs (x3 + 2).toNatClampNeg), .int (xs (x3 + 3).toNatClampNeg), .int (xs (x3 + 4).toNatClampNeg), .int (xs (x3 + 5).toNatClampNeg), .int (xs (x3 + 6).toNatClampNeg)]) (rest := [.int r]) (mX11_attempt (l := l) (E := E) (ids := ids) hY e2) wc_X11_attempt wi_RX11 wlL_67 wvL_X11_attempt wzL_X11_attempt (by decide +kernel) (by decide) rfl hl.1 rfl (Nat.le_of_ble_eq_true rfl) dL_law_688 hcs) (fun H locs hw => ?_)
  exact lv_icmp_eq (tgt := 1684) C.1 C.2.1 dL_law_691 (by decide) (fun _ => kk _ _ _ _ hI hw hl) (fun q => absurd rfl q)
set_option maxHeartbeats 4000000 in
set_option maxRecDepth 20000 in
theorem law_12 (C : ea_C p s m args meth c code 4 ret RL) (hX : ea_X ids) (hY : ea_Y ids) (hX0 : va_X b L xs s s.heap) (hbl : b < s.heap.size) (hbA : ¬ ea_Ad E ids b) (hcs : cells ≤ room_1.cells ∧ slots ≤ room_1.slots) (hin : ∀ k : Int32, (1 ≤ k ∧ k ≤ 6) → vp_in (x3 + k) L) (hw : ea_w E ids M s H locs) (hl : lv_has ls 4 [(0, .ref b), (1, .ref (E.1 0)), (2, .ref (E.1 100)), (3, .int x3)]) (hst : ∀ (a0 : Int32) (a1 : Int32) (a2 : Int32) (a3 : Int32) (a4 : Int32), ea_st Inv (fX10_right a0 a1 a2 a3 a4) (fX11_right a0 a1 a2 a3 a4)) (hM : Inv M)
    (kk : ∀ (M : eM) (H : Heap) (locs : List Loc) (ls : Array Slot), Inv M → ea_w E ids M s H locs → lv_has ls 4 [(0, .ref b), (1, .ref (E.1 0)), (2, .ref (E.1 100)), (3, .int x3)] → W p l e room_1 s m args below meth c H locs cells slots Q (F0 m 1684 ls [])) : W p l e room_1 s m args below meth c H locs cells slots Q (F0 m 696 ls []) := by
  refine lv_aload_n C.1 C.2.1 dL_law_696 rfl (lv_at hl 1 rfl) ?_
  refine lv_aload_n C.1 C.2.1 dL_law_697 rfl (lv_at hl 0 rfl) ?_
  refine lv_iload_n C.1 C.2.1 dL_law_698 rfl (lv_at hl 3 rfl) ?_
  refine lv_iconst (v := 1) C.1 C.2.1 dL_law_699 (by decide) ?_
  refine lv_iadd C.1 C.2.1 dL_law_700 ?_
  refine va_sld C.1 C.2.1 hX0 hbl hbA hw.2.2.2.1 (hin 1 (by decide)) dL_law_701 ?_
  refine lv_aload_n C.1 C.2.1 dL_law_702 rfl (lv_at hl 0 rfl) ?_
  refine lv_iload_n C.1 C.2.1 dL_law_703 rfl (lv_at hl 3 rfl) ?_
  refine lv_iconst (v := 2) C.1 C.2.1 dL_law_704 (by decide) ?_
  refine lv_iadd C.1 C.2.1 dL_law_705 ?_
  refine va_sld C.1 C.2.1 hX0 hbl hbA hw.2.2.2.1 (hin 2 (by decide)) dL_law_706 ?_
  refine lv_aload_n C.1 C.2.1 dL_law_707 rfl (lv_at hl 0 rfl) ?_
  refine lv_iload_n C.1 C.2.1 dL_law_708 rfl (lv_at hl 3 rfl) ?_
  refine lv_iconst (v := 3) C.1 C.2.1 dL_law_709 (by decide) ?_
  refine lv_iadd C.1 C.2.1 dL_law_710 ?_
  refine va_sld C.1 C.2.1 hX0 hbl hbA hw.2.2.2.1 (hin 3 (by decide)) dL_law_711 ?_
  refine lv_aload_n C.1 C.2.1 dL_law_712 rfl (lv_at hl 0 rfl) ?_
  refine lv_iload_n C.1 C.2.1 dL_law_713 rfl (lv_at hl 3 rfl) ?_
  refine lv_iconst (v := 4) C.1 C.2.1 dL_law_714 (by decide) ?_
  refine lv_iadd C.1 C.2.1 dL_law_715 ?_
  refine va_sld C.1 C.2.1 hX0 hbl hbA hw.2.2.2.1 (hin 4 (by decide)) dL_law_716 ?_
  refine lv_aload_n C.1 C.2.1 dL_law_717 rfl (lv_at hl 0 rfl) ?_
  refine lv_iload_n C.1 C.2.1 dL_law_718 rfl (lv_at hl 3 rfl) ?_
  refine lv_iconst (v := 5) C.1 C.2.1 dL_law_719 (by decide) ?_
  refine lv_iadd C.1 C.2.1 dL_law_720 ?_
  refine va_sld C.1 C.2.1 hX0 hbl hbA hw.2.2.2.1 (hin 5 (by decide)) dL_law_721 ?_
  obtain ⟨r, M1, M2, e1, e2, hI⟩ := hst (xs (x3 + 1).toNatClampNeg) (xs (x3 + 2).toNatClampNeg) (xs (x3 + 3).toNatClampNeg) (xs (x3 + 4).toNatClampNeg) (xs (x3 + 5).toNatClampNeg) M hM
  refine ea_runi2 hw (ea_runV (n := 5) C hw (hX 0 10 rfl) (by decide) (by decide) rfl (As := [.int (xs (x3 + 1).toNatClampNeg), .int (xs (x3 + 2).toNatClampNeg), .int (xs (x3 + 3).toNatClampNeg), .int (xs (x3 + 4).toNatClampNeg), .int (xs (x3 + 5).toNatClampNeg)]) (rest := []) (mX10_right (l := l) (E := E) (ids := ids) hX e1) wc_X10_right wi_RX10 wlL_68 wvL_X10_right wzL_X10_right (by decide +kernel) (by decide) rfl hl.1 rfl (Nat.le_of_ble_eq_true rfl) dL_law_722 hcs) (fun H locs hw => ?_)
  refine lv_aload_n C.1 C.2.1 dL_law_725 rfl (lv_at hl 2 rfl) ?_
  refine lv_aload_n C.1 C.2.1 dL_law_726 rfl (lv_at hl 0 rfl) ?_
  refine lv_iload_n C.1 C.2.1 dL_law_727 rfl (lv_at hl 3 rfl) ?_
  refine lv_iconst (v := 1) C.1 C.2.1 dL_law_728 (by decide) ?_
  refine lv_iadd C.1 C.2.1 dL_law_729 ?_
  refine va_sld C.1 C.2.1 hX0 hbl hbA hw.2.2.2.1 (hin 1 (by decide)) dL_law_730 ?_
  refine lv_aload_n C.1 C.2.1 dL_law_731 rfl (lv_at hl 0 rfl) ?_
  refine lv_iload_n C.1 C.2.1 dL_law_732 rfl (lv_at hl 3 rfl) ?_
  refine lv_iconst (v := 2) C.1 C.2.1 dL_law_733 (by decide) ?_
  refine lv_iadd C.1 C.2.1 dL_law_734 ?_
  refine va_sld C.1 C.2.1 hX0 hbl hbA hw.2.2.2.1 (hin 2 (by decide)) dL_law_735 ?_
  refine lv_aload_n C.1 C.2.1 dL_law_736 rfl (lv_at hl 0 rfl) ?_
  refine lv_iload_n C.1 C.2.1 dL_law_737 rfl (lv_at hl 3 rfl) ?_
  refine lv_iconst (v := 3) C.1 C.2.1 dL_law_738 (by decide) ?_
  refine lv_iadd C.1 C.2.1 dL_law_739 ?_
  refine va_sld C.1 C.2.1 hX0 hbl hbA hw.2.2.2.1 (hin 3 (by decide)) dL_law_740 ?_
  refine lv_aload_n C.1 C.2.1 dL_law_741 rfl (lv_at hl 0 rfl) ?_
  refine lv_iload_n C.1 C.2.1 dL_law_742 rfl (lv_at hl 3 rfl) ?_
  refine lv_iconst (v := 4) C.1 C.2.1 dL_law_743 (by decide) ?_
  refine lv_iadd C.1 C.2.1 dL_law_744 ?_
  refine va_sld C.1 C.2.1 hX0 hbl hbA hw.2.2.2.1 (hin 4 (by decide)) dL_law_745 ?_
  refine lv_aload_n C.1 C.2.1 dL_law_746 rfl (lv_at hl 0 rfl) ?_
  refine lv_iload_n C.1 C.2.1 dL_law_747 rfl (lv_at hl 3 rfl) ?_
  refine lv_iconst (v := 5) C.1 C.2.1 dL_law_748 (by decide) ?_
  refine lv_iadd C.1 C.2.1 dL_law_749 ?_
  refine va_sld C.1 C.2.1 hX0 hbl hbA hw.2.2.2.1 (hin 5 (by decide)) dL_law_750 ?_
  refine ea_runi2 hw (ea_runV (n := 5) C hw (hY 100 11 rfl) (by decide) (by decide) rfl (As := [.int (xs (x3 + 1).toNatClampNeg), .int (xs (x3 + 2).toNatClampNeg), .int (xs (x3 + 3).toNatClampNeg), .int (xs (x3 + 4).toNatClampNeg), .int (xs (x3 + 5).toNatClampNeg)]) (rest := [.int r]) (mX11_right (l := l) (E := E) (ids := ids) hY e2) wc_X11_right wi_RX11 wlL_71 wvL_X11_right wzL_X11_right (by decide +kernel) (by decide) rfl hl.1 rfl (Nat.le_of_ble_eq_true rfl) dL_law_751 hcs) (fun H locs hw => ?_)
  exact lv_icmp_eq (tgt := 1684) C.1 C.2.1 dL_law_754 (by decide) (fun _ => kk _ _ _ _ hI hw hl) (fun q => absurd rfl q)
set_option maxHeartbeats 4000000 in
set_option maxRecDepth 20000 in
theorem law_13 (C : ea_C p s m args meth c code 4 ret RL) (hX : ea_X ids) (hY : ea_Y ids) (hX0 : va_X b L xs s s.heap) (hbl : b < s.heap.size) (hbA : ¬ ea_Ad E ids b) (hcs : cells ≤ room_1.cells ∧ slots ≤ room_1.slots) (hin : ∀ k : Int32, (1 ≤ k ∧ k ≤ 6) → vp_in (x3 + k) L) (hw : ea_w E ids M s H locs) (hl : lv_has ls 4 [(0, .ref b), (1, .ref (E.1 0)), (2, .ref (E.1 100)), (3, .int x3)]) (hst : ∀ (a0 : Int32) (a1 : Int32) (a2 : Int32) (a3 : Int32), ea_st Inv (fX10_shows a0 a1 a2 a3) (fX11_shows a0 a1 a2 a3)) (hM : Inv M)
    (kk : ∀ (M : eM) (H : Heap) (locs : List Loc) (ls : Array Slot), Inv M → ea_w E ids M s H locs → lv_has ls 4 [(0, .ref b), (1, .ref (E.1 0)), (2, .ref (E.1 100)), (3, .int x3)] → W p l e room_1 s m args below meth c H locs cells slots Q (F0 m 1684 ls [])) : W p l e room_1 s m args below meth c H locs cells slots Q (F0 m 759 ls []) := by
  refine lv_aload_n C.1 C.2.1 dL_law_759 rfl (lv_at hl 1 rfl) ?_
  refine lv_aload_n C.1 C.2.1 dL_law_760 rfl (lv_at hl 0 rfl) ?_
  refine lv_iload_n C.1 C.2.1 dL_law_761 rfl (lv_at hl 3 rfl) ?_
  refine lv_iconst (v := 1) C.1 C.2.1 dL_law_762 (by decide) ?_
  refine lv_iadd C.1 C.2.1 dL_law_763 ?_
  refine va_sld C.1 C.2.1 hX0 hbl hbA hw.2.2.2.1 (hin 1 (by decide)) dL_law_764 ?_
  refine lv_aload_n C.1 C.2.1 dL_law_765 rfl (lv_at hl 0 rfl) ?_
  refine lv_iload_n C.1 C.2.1 dL_law_766 rfl (lv_at hl 3 rfl) ?_
  refine lv_iconst (v := 2) C.1 C.2.1 dL_law_767 (by decide) ?_
  refine lv_iadd C.1 C.2.1 dL_law_768 ?_
  refine va_sld C.1 C.2.1 hX0 hbl hbA hw.2.2.2.1 (hin 2 (by decide)) dL_law_769 ?_
  refine lv_aload_n C.1 C.2.1 dL_law_770 rfl (lv_at hl 0 rfl) ?_
  refine lv_iload_n C.1 C.2.1 dL_law_771 rfl (lv_at hl 3 rfl) ?_
  refine lv_iconst (v := 3) C.1 C.2.1 dL_law_772 (by decide) ?_
  refine lv_iadd C.1 C.2.1 dL_law_773 ?_
  refine va_sld C.1 C.2.1 hX0 hbl hbA hw.2.2.2.1 (hin 3 (by decide)) dL_law_774 ?_
  refine lv_aload_n C.1 C.2.1 dL_law_775 rfl (lv_at hl 0 rfl) ?_
  refine lv_iload_n C.1 C.2.1 dL_law_776 rfl (lv_at hl 3 rfl) ?_
  refine lv_iconst (v := 4) C.1 C.2.1 dL_law_777 (by decide) ?_
  refine lv_iadd C.1 C.2.1 dL_law_778 ?_
  refine va_sld C.1 C.2.1 hX0 hbl hbA hw.2.2.2.1 (hin 4 (by decide)) dL_law_779 ?_
  obtain ⟨r, M1, M2, e1, e2, hI⟩ := hst (xs (x3 + 1).toNatClampNeg) (xs (x3 + 2).toNatClampNeg) (xs (x3 + 3).toNatClampNeg) (xs (x3 + 4).toNatClampNeg) M hM
  refine ea_runi2 hw (ea_runV (n := 4) C hw (hX 0 10 rfl) (by decide) (by decide) rfl (As := [.int (xs (x3 + 1).toNatClampNeg), .int (xs (x3 + 2).toNatClampNeg), .int (xs (x3 + 3).toNatClampNeg), .int (xs (x3 + 4).toNatClampNeg)]) (rest := []) (mX10_shows (l := l) (E := E) (ids := ids) hX e1) wc_X10_shows wi_RX10 wlL_72 wvL_X10_shows wzL_X10_shows (by decide +kernel) (by decide) rfl hl.1 rfl (Nat.le_of_ble_eq_true rfl) dL_law_780 hcs) (fun H locs hw => ?_)
  refine lv_aload_n C.1 C.2.1 dL_law_783 rfl (lv_at hl 2 rfl) ?_
  refine lv_aload_n C.1 C.2.1 dL_law_784 rfl (lv_at hl 0 rfl) ?_
  refine lv_iload_n C.1 C.2.1 dL_law_785 rfl (lv_at hl 3 rfl) ?_
  refine lv_iconst (v := 1) C.1 C.2.1 dL_law_786 (by decide) ?_
  refine lv_iadd C.1 C.2.1 dL_law_787 ?_
  refine va_sld C.1 C.2.1 hX0 hbl hbA hw.2.2.2.1 (hin 1 (by decide)) dL_law_788 ?_
  refine lv_aload_n C.1 C.2.1 dL_law_789 rfl (lv_at hl 0 rfl) ?_
  refine lv_iload_n C.1 C.2.1 dL_law_790 rfl (lv_at hl 3 rfl) ?_
  refine lv_iconst (v := 2) C.1 C.2.1 dL_law_791 (by decide) ?_
  refine lv_iadd C.1 C.2.1 dL_law_792 ?_
  refine va_sld C.1 C.2.1 hX0 hbl hbA hw.2.2.2.1 (hin 2 (by decide)) dL_law_793 ?_
  refine lv_aload_n C.1 C.2.1 dL_law_794 rfl (lv_at hl 0 rfl) ?_
  refine lv_iload_n C.1 C.2.1 dL_law_795 rfl (lv_at hl 3 rfl) ?_
  refine lv_iconst (v := 3) C.1 C.2.1 dL_law_796 (by decide) ?_
  refine lv_iadd C.1 C.2.1 dL_law_797 ?_
  refine va_sld C.1 C.2.1 hX0 hbl hbA hw.2.2.2.1 (hin 3 (by decide)) dL_law_798 ?_
  refine lv_aload_n C.1 C.2.1 dL_law_799 rfl (lv_at hl 0 rfl) ?_
  refine lv_iload_n C.1 C.2.1 dL_law_800 rfl (lv_at hl 3 rfl) ?_
  refine lv_iconst (v := 4) C.1 C.2.1 dL_law_801 (by decide) ?_
  refine lv_iadd C.1 C.2.1 dL_law_802 ?_
  refine va_sld C.1 C.2.1 hX0 hbl hbA hw.2.2.2.1 (hin 4 (by decide)) dL_law_803 ?_
  refine ea_runi2 hw (ea_runV (n := 4) C hw (hY 100 11 rfl) (by decide) (by decide) rfl (As := [.int (xs (x3 + 1).toNatClampNeg), .int (xs (x3 + 2).toNatClampNeg), .int (xs (x3 + 3).toNatClampNeg), .int (xs (x3 + 4).toNatClampNeg)]) (rest := [.int r]) (mX11_shows (l := l) (E := E) (ids := ids) hY e2) wc_X11_shows wi_RX11 wlL_75 wvL_X11_shows wzL_X11_shows (by decide +kernel) (by decide) rfl hl.1 rfl (Nat.le_of_ble_eq_true rfl) dL_law_804 hcs) (fun H locs hw => ?_)
  exact lv_icmp_eq (tgt := 1684) C.1 C.2.1 dL_law_807 (by decide) (fun _ => kk _ _ _ _ hI hw hl) (fun q => absurd rfl q)
set_option maxHeartbeats 4000000 in
set_option maxRecDepth 20000 in
theorem law_14 (C : ea_C p s m args meth c code 4 ret RL) (hX : ea_X ids) (hY : ea_Y ids) (hX0 : va_X b L xs s s.heap) (hbl : b < s.heap.size) (hbA : ¬ ea_Ad E ids b) (hcs : cells ≤ room_1.cells ∧ slots ≤ room_1.slots) (hin : ∀ k : Int32, (1 ≤ k ∧ k ≤ 6) → vp_in (x3 + k) L) (hw : ea_w E ids M s H locs) (hl : lv_has ls 4 [(0, .ref b), (1, .ref (E.1 0)), (2, .ref (E.1 100)), (3, .int x3)]) (hst : ∀ (a0 : Int32), ea_st Inv (fX10_keep a0) (fX11_keep a0)) (hM : Inv M)
    (kk : ∀ (M : eM) (H : Heap) (locs : List Loc) (ls : Array Slot), Inv M → ea_w E ids M s H locs → lv_has ls 4 [(0, .ref b), (1, .ref (E.1 0)), (2, .ref (E.1 100)), (3, .int x3)] → W p l e room_1 s m args below meth c H locs cells slots Q (F0 m 1684 ls [])) : W p l e room_1 s m args below meth c H locs cells slots Q (F0 m 812 ls []) := by
  refine lv_aload_n C.1 C.2.1 dL_law_812 rfl (lv_at hl 1 rfl) ?_
  refine lv_aload_n C.1 C.2.1 dL_law_813 rfl (lv_at hl 0 rfl) ?_
  refine lv_iload_n C.1 C.2.1 dL_law_814 rfl (lv_at hl 3 rfl) ?_
  refine lv_iconst (v := 1) C.1 C.2.1 dL_law_815 (by decide) ?_
  refine lv_iadd C.1 C.2.1 dL_law_816 ?_
  refine va_sld C.1 C.2.1 hX0 hbl hbA hw.2.2.2.1 (hin 1 (by decide)) dL_law_817 ?_
  obtain ⟨r, M1, M2, e1, e2, hI⟩ := hst (xs (x3 + 1).toNatClampNeg) M hM
  refine ea_runi2 hw (ea_runV (n := 1) C hw (hX 0 10 rfl) (by decide) (by decide) rfl (As := [.int (xs (x3 + 1).toNatClampNeg)]) (rest := []) (mX10_keep (l := l) (E := E) (ids := ids) hX e1) wc_X10_keep wi_RX10 wlL_76 wvL_X10_keep wzL_X10_keep (by decide +kernel) (by decide) rfl hl.1 rfl (Nat.le_of_ble_eq_true rfl) dL_law_818 hcs) (fun H locs hw => ?_)
  refine lv_aload_n C.1 C.2.1 dL_law_821 rfl (lv_at hl 2 rfl) ?_
  refine lv_aload_n C.1 C.2.1 dL_law_822 rfl (lv_at hl 0 rfl) ?_
  refine lv_iload_n C.1 C.2.1 dL_law_823 rfl (lv_at hl 3 rfl) ?_
  refine lv_iconst (v := 1) C.1 C.2.1 dL_law_824 (by decide) ?_
  refine lv_iadd C.1 C.2.1 dL_law_825 ?_
  refine va_sld C.1 C.2.1 hX0 hbl hbA hw.2.2.2.1 (hin 1 (by decide)) dL_law_826 ?_
  refine ea_runi2 hw (ea_runV (n := 1) C hw (hY 100 11 rfl) (by decide) (by decide) rfl (As := [.int (xs (x3 + 1).toNatClampNeg)]) (rest := [.int r]) (mX11_keep (l := l) (E := E) (ids := ids) hY e2) wc_X11_keep wi_RX11 wlL_79 wvL_X11_keep wzL_X11_keep (by decide +kernel) (by decide) rfl hl.1 rfl (Nat.le_of_ble_eq_true rfl) dL_law_827 hcs) (fun H locs hw => ?_)
  exact lv_icmp_eq (tgt := 1684) C.1 C.2.1 dL_law_830 (by decide) (fun _ => kk _ _ _ _ hI hw hl) (fun q => absurd rfl q)
set_option maxHeartbeats 4000000 in
set_option maxRecDepth 20000 in
theorem law_15 (C : ea_C p s m args meth c code 4 ret RL) (hX : ea_X ids) (hY : ea_Y ids) (hX0 : va_X b L xs s s.heap) (hbl : b < s.heap.size) (hbA : ¬ ea_Ad E ids b) (hcs : cells ≤ room_1.cells ∧ slots ≤ room_1.slots) (hin : ∀ k : Int32, (1 ≤ k ∧ k ≤ 6) → vp_in (x3 + k) L) (hw : ea_w E ids M s H locs) (hl : lv_has ls 4 [(0, .ref b), (1, .ref (E.1 0)), (2, .ref (E.1 100)), (3, .int x3)]) (hst : ∀ (a0 : Int32), ea_st Inv (fX10_take a0) (fX11_take a0)) (hM : Inv M)
    (kk : ∀ (M : eM) (H : Heap) (locs : List Loc) (ls : Array Slot), Inv M → ea_w E ids M s H locs → lv_has ls 4 [(0, .ref b), (1, .ref (E.1 0)), (2, .ref (E.1 100)), (3, .int x3)] → W p l e room_1 s m args below meth c H locs cells slots Q (F0 m 1684 ls [])) : W p l e room_1 s m args below meth c H locs cells slots Q (F0 m 835 ls []) := by
  refine lv_aload_n C.1 C.2.1 dL_law_835 rfl (lv_at hl 1 rfl) ?_
  refine lv_aload_n C.1 C.2.1 dL_law_836 rfl (lv_at hl 0 rfl) ?_
  refine lv_iload_n C.1 C.2.1 dL_law_837 rfl (lv_at hl 3 rfl) ?_
  refine lv_iconst (v := 1) C.1 C.2.1 dL_law_838 (by decide) ?_
  refine lv_iadd C.1 C.2.1 dL_law_839 ?_
  refine va_sld C.1 C.2.1 hX0 hbl hbA hw.2.2.2.1 (hin 1 (by decide)) dL_law_840 ?_
  obtain ⟨r, M1, M2, e1, e2, hI⟩ := hst (xs (x3 + 1).toNatClampNeg) M hM
  refine ea_runi2 hw (ea_runV (n := 1) C hw (hX 0 10 rfl) (by decide) (by decide) rfl (As := [.int (xs (x3 + 1).toNatClampNeg)]) (rest := []) (mX10_take (l := l) (E := E) (ids := ids) hX e1) wc_X10_take wi_RX10 wlL_80 wvL_X10_take wzL_X10_take (by decide +kernel) (by decide) rfl hl.1 rfl (Nat.le_of_ble_eq_true rfl) dL_law_841 hcs) (fun H locs hw => ?_)
  refine lv_aload_n C.1 C.2.1 dL_law_844 rfl (lv_at hl 2 rfl) ?_
  refine lv_aload_n C.1 C.2.1 dL_law_845 rfl (lv_at hl 0 rfl) ?_
  refine lv_iload_n C.1 C.2.1 dL_law_846 rfl (lv_at hl 3 rfl) ?_
  refine lv_iconst (v := 1) C.1 C.2.1 dL_law_847 (by decide) ?_
  refine lv_iadd C.1 C.2.1 dL_law_848 ?_
  refine va_sld C.1 C.2.1 hX0 hbl hbA hw.2.2.2.1 (hin 1 (by decide)) dL_law_849 ?_
  refine ea_runi2 hw (ea_runV (n := 1) C hw (hY 100 11 rfl) (by decide) (by decide) rfl (As := [.int (xs (x3 + 1).toNatClampNeg)]) (rest := [.int r]) (mX11_take (l := l) (E := E) (ids := ids) hY e2) wc_X11_take wi_RX11 wlL_83 wvL_X11_take wzL_X11_take (by decide +kernel) (by decide) rfl hl.1 rfl (Nat.le_of_ble_eq_true rfl) dL_law_850 hcs) (fun H locs hw => ?_)
  exact lv_icmp_eq (tgt := 1684) C.1 C.2.1 dL_law_853 (by decide) (fun _ => kk _ _ _ _ hI hw hl) (fun q => absurd rfl q)
set_option maxHeartbeats 4000000 in
set_option maxRecDepth 20000 in
theorem law_16 (C : ea_C p s m args meth c code 4 ret RL) (hX : ea_X ids) (hY : ea_Y ids) (hX0 : va_X b L xs s s.heap) (hbl : b < s.heap.size) (hbA : ¬ ea_Ad E ids b) (hcs : cells ≤ room_1.cells ∧ slots ≤ room_1.slots) (hin : ∀ k : Int32, (1 ≤ k ∧ k ≤ 6) → vp_in (x3 + k) L) (hw : ea_w E ids M s H locs) (hl : lv_has ls 4 [(0, .ref b), (1, .ref (E.1 0)), (2, .ref (E.1 100)), (3, .int x3)]) (hst : ∀ (a0 : Int32) (a1 : Int32) (a2 : Int32) (a3 : Int32), ea_st Inv (fX10_fit a0 a1 a2 a3) (fX11_fit a0 a1 a2 a3)) (hM : Inv M)
    (kk : ∀ (M : eM) (H : Heap) (locs : List Loc) (ls : Array Slot), Inv M → ea_w E ids M s H locs → lv_has ls 4 [(0, .ref b), (1, .ref (E.1 0)), (2, .ref (E.1 100)), (3, .int x3)] → W p l e room_1 s m args below meth c H locs cells slots Q (F0 m 1684 ls [])) : W p l e room_1 s m args below meth c H locs cells slots Q (F0 m 858 ls []) := by
  refine lv_aload_n C.1 C.2.1 dL_law_858 rfl (lv_at hl 1 rfl) ?_
  refine lv_aload_n C.1 C.2.1 dL_law_859 rfl (lv_at hl 0 rfl) ?_
  refine lv_iload_n C.1 C.2.1 dL_law_860 rfl (lv_at hl 3 rfl) ?_
  refine lv_iconst (v := 1) C.1 C.2.1 dL_law_861 (by decide) ?_
  refine lv_iadd C.1 C.2.1 dL_law_862 ?_
  refine va_sld C.1 C.2.1 hX0 hbl hbA hw.2.2.2.1 (hin 1 (by decide)) dL_law_863 ?_
  refine lv_aload_n C.1 C.2.1 dL_law_864 rfl (lv_at hl 0 rfl) ?_
  refine lv_iload_n C.1 C.2.1 dL_law_865 rfl (lv_at hl 3 rfl) ?_
  refine lv_iconst (v := 2) C.1 C.2.1 dL_law_866 (by decide) ?_
  refine lv_iadd C.1 C.2.1 dL_law_867 ?_
  refine va_sld C.1 C.2.1 hX0 hbl hbA hw.2.2.2.1 (hin 2 (by decide)) dL_law_868 ?_
  refine lv_aload_n C.1 C.2.1 dL_law_869 rfl (lv_at hl 0 rfl) ?_
  refine lv_iload_n C.1 C.2.1 dL_law_870 rfl (lv_at hl 3 rfl) ?_
  refine lv_iconst (v := 3) C.1 C.2.1 dL_law_871 (by decide) ?_
  refine lv_iadd C.1 C.2.1 dL_law_872 ?_
  refine va_sld C.1 C.2.1 hX0 hbl hbA hw.2.2.2.1 (hin 3 (by decide)) dL_law_873 ?_
  refine lv_aload_n C.1 C.2.1 dL_law_874 rfl (lv_at hl 0 rfl) ?_
  refine lv_iload_n C.1 C.2.1 dL_law_875 rfl (lv_at hl 3 rfl) ?_
  refine lv_iconst (v := 4) C.1 C.2.1 dL_law_876 (by decide) ?_
  refine lv_iadd C.1 C.2.1 dL_law_877 ?_
  refine va_sld C.1 C.2.1 hX0 hbl hbA hw.2.2.2.1 (hin 4 (by decide)) dL_law_878 ?_
  obtain ⟨r, M1, M2, e1, e2, hI⟩ := hst (xs (x3 + 1).toNatClampNeg) (xs (x3 + 2).toNatClampNeg) (xs (x3 + 3).toNatClampNeg) (xs (x3 + 4).toNatClampNeg) M hM
  refine ea_runi2 hw (ea_runV (n := 4) C hw (hX 0 10 rfl) (by decide) (by decide) rfl (As := [.int (xs (x3 + 1).toNatClampNeg), .int (xs (x3 + 2).toNatClampNeg), .int (xs (x3 + 3).toNatClampNeg), .int (xs (x3 + 4).toNatClampNeg)]) (rest := []) (mX10_fit (l := l) (E := E) (ids := ids) hX e1) wc_X10_fit wi_RX10 wlL_84 wvL_X10_fit wzL_X10_fit (by decide +kernel) (by decide) rfl hl.1 rfl (Nat.le_of_ble_eq_true rfl) dL_law_879 hcs) (fun H locs hw => ?_)
  refine lv_aload_n C.1 C.2.1 dL_law_882 rfl (lv_at hl 2 rfl) ?_
  refine lv_aload_n C.1 C.2.1 dL_law_883 rfl (lv_at hl 0 rfl) ?_
  refine lv_iload_n C.1 C.2.1 dL_law_884 rfl (lv_at hl 3 rfl) ?_
  refine lv_iconst (v := 1) C.1 C.2.1 dL_law_885 (by decide) ?_
  refine lv_iadd C.1 C.2.1 dL_law_886 ?_
  refine va_sld C.1 C.2.1 hX0 hbl hbA hw.2.2.2.1 (hin 1 (by decide)) dL_law_887 ?_
  refine lv_aload_n C.1 C.2.1 dL_law_888 rfl (lv_at hl 0 rfl) ?_
  refine lv_iload_n C.1 C.2.1 dL_law_889 rfl (lv_at hl 3 rfl) ?_
  refine lv_iconst (v := 2) C.1 C.2.1 dL_law_890 (by decide) ?_
  refine lv_iadd C.1 C.2.1 dL_law_891 ?_
  refine va_sld C.1 C.2.1 hX0 hbl hbA hw.2.2.2.1 (hin 2 (by decide)) dL_law_892 ?_
  refine lv_aload_n C.1 C.2.1 dL_law_893 rfl (lv_at hl 0 rfl) ?_
  refine lv_iload_n C.1 C.2.1 dL_law_894 rfl (lv_at hl 3 rfl) ?_
  refine lv_iconst (v := 3) C.1 C.2.1 dL_law_895 (by decide) ?_
  refine lv_iadd C.1 C.2.1 dL_law_896 ?_
  refine va_sld C.1 C.2.1 hX0 hbl hbA hw.2.2.2.1 (hin 3 (by decide)) dL_law_897 ?_
  refine lv_aload_n C.1 C.2.1 dL_law_898 rfl (lv_at hl 0 rfl) ?_
  refine lv_iload_n C.1 C.2.1 dL_law_899 rfl (lv_at hl 3 rfl) ?_
  refine lv_iconst (v := 4) C.1 C.2.1 dL_law_900 (by decide) ?_
  refine lv_iadd C.1 C.2.1 dL_law_901 ?_
  refine va_sld C.1 C.2.1 hX0 hbl hbA hw.2.2.2.1 (hin 4 (by decide)) dL_law_902 ?_
  refine ea_runi2 hw (ea_runV (n := 4) C hw (hY 100 11 rfl) (by decide) (by decide) rfl (As := [.int (xs (x3 + 1).toNatClampNeg), .int (xs (x3 + 2).toNatClampNeg), .int (xs (x3 + 3).toNatClampNeg), .int (xs (x3 + 4).toNatClampNeg)]) (rest := [.int r]) (mX11_fit (l := l) (E := E) (ids := ids) hY e2) wc_X11_fit wi_RX11 wlL_87 wvL_X11_fit wzL_X11_fit (by decide +kernel) (by decide) rfl hl.1 rfl (Nat.le_of_ble_eq_true rfl) dL_law_903 hcs) (fun H locs hw => ?_)
  exact lv_icmp_eq (tgt := 1684) C.1 C.2.1 dL_law_906 (by decide) (fun _ => kk _ _ _ _ hI hw hl) (fun q => absurd rfl q)
set_option maxHeartbeats 4000000 in
set_option maxRecDepth 20000 in
theorem law_17 (C : ea_C p s m args meth c code 4 ret RL) (hX : ea_X ids) (hY : ea_Y ids) (hX0 : va_X b L xs s s.heap) (hbl : b < s.heap.size) (hbA : ¬ ea_Ad E ids b) (hcs : cells ≤ room_1.cells ∧ slots ≤ room_1.slots) (hin : ∀ k : Int32, (1 ≤ k ∧ k ≤ 6) → vp_in (x3 + k) L) (hw : ea_w E ids M s H locs) (hl : lv_has ls 4 [(0, .ref b), (1, .ref (E.1 0)), (2, .ref (E.1 100)), (3, .int x3)]) (hst : ∀ (a0 : Int32) (a1 : Int32) (a2 : Int32) (a3 : Int32) (a4 : Int32), ea_st Inv (fX10_pair a0 a1 a2 a3 a4) (fX11_pair a0 a1 a2 a3 a4)) (hM : Inv M)
    (kk : ∀ (M : eM) (H : Heap) (locs : List Loc) (ls : Array Slot), Inv M → ea_w E ids M s H locs → lv_has ls 4 [(0, .ref b), (1, .ref (E.1 0)), (2, .ref (E.1 100)), (3, .int x3)] → W p l e room_1 s m args below meth c H locs cells slots Q (F0 m 1684 ls [])) : W p l e room_1 s m args below meth c H locs cells slots Q (F0 m 911 ls []) := by
  refine lv_aload_n C.1 C.2.1 dL_law_911 rfl (lv_at hl 1 rfl) ?_
  refine lv_aload_n C.1 C.2.1 dL_law_912 rfl (lv_at hl 0 rfl) ?_
  refine lv_iload_n C.1 C.2.1 dL_law_913 rfl (lv_at hl 3 rfl) ?_
  refine lv_iconst (v := 1) C.1 C.2.1 dL_law_914 (by decide) ?_
  refine lv_iadd C.1 C.2.1 dL_law_915 ?_
  refine va_sld C.1 C.2.1 hX0 hbl hbA hw.2.2.2.1 (hin 1 (by decide)) dL_law_916 ?_
  refine lv_aload_n C.1 C.2.1 dL_law_917 rfl (lv_at hl 0 rfl) ?_
  refine lv_iload_n C.1 C.2.1 dL_law_918 rfl (lv_at hl 3 rfl) ?_
  refine lv_iconst (v := 2) C.1 C.2.1 dL_law_919 (by decide) ?_
  refine lv_iadd C.1 C.2.1 dL_law_920 ?_
  refine va_sld C.1 C.2.1 hX0 hbl hbA hw.2.2.2.1 (hin 2 (by decide)) dL_law_921 ?_
  refine lv_aload_n C.1 C.2.1 dL_law_922 rfl (lv_at hl 0 rfl) ?_
  refine lv_iload_n C.1 C.2.1 dL_law_923 rfl (lv_at hl 3 rfl) ?_
  refine lv_iconst (v := 3) C.1 C.2.1 dL_law_924 (by decide) ?_
  refine lv_iadd C.1 C.2.1 dL_law_925 ?_
  refine va_sld C.1 C.2.1 hX0 hbl hbA hw.2.2.2.1 (hin 3 (by decide)) dL_law_926 ?_
  refine lv_aload_n C.1 C.2.1 dL_law_927 rfl (lv_at hl 0 rfl) ?_
  refine lv_iload_n C.1 C.2.1 dL_law_928 rfl (lv_at hl 3 rfl) ?_
  refine lv_iconst (v := 4) C.1 C.2.1 dL_law_929 (by decide) ?_
  refine lv_iadd C.1 C.2.1 dL_law_930 ?_
  refine va_sld C.1 C.2.1 hX0 hbl hbA hw.2.2.2.1 (hin 4 (by decide)) dL_law_931 ?_
  refine lv_aload_n C.1 C.2.1 dL_law_932 rfl (lv_at hl 0 rfl) ?_
  refine lv_iload_n C.1 C.2.1 dL_law_933 rfl (lv_at hl 3 rfl) ?_
  refine lv_iconst (v := 5) C.1 C.2.1 dL_law_934 (by decide) ?_
  refine lv_iadd C.1 C.2.1 dL_law_935 ?_
  refine va_sld C.1 C.2.1 hX0 hbl hbA hw.2.2.2.1 (hin 5 (by decide)) dL_law_936 ?_
  obtain ⟨r, M1, M2, e1, e2, hI⟩ := hst (xs (x3 + 1).toNatClampNeg) (xs (x3 + 2).toNatClampNeg) (xs (x3 + 3).toNatClampNeg) (xs (x3 + 4).toNatClampNeg) (xs (x3 + 5).toNatClampNeg) M hM
  refine ea_runi2 hw (ea_runV (n := 5) C hw (hX 0 10 rfl) (by decide) (by decide) rfl (As := [.int (xs (x3 + 1).toNatClampNeg), .int (xs (x3 + 2).toNatClampNeg), .int (xs (x3 + 3).toNatClampNeg), .int (xs (x3 + 4).toNatClampNeg), .int (xs (x3 + 5).toNatClampNeg)]) (rest := []) (mX10_pair (l := l) (E := E) (ids := ids) hX e1) wc_X10_pair wi_RX10 wlL_88 wvL_X10_pair wzL_X10_pair (by decide +kernel) (by decide) rfl hl.1 rfl (Nat.le_of_ble_eq_true rfl) dL_law_937 hcs) (fun H locs hw => ?_)
  refine lv_aload_n C.1 C.2.1 dL_law_940 rfl (lv_at hl 2 rfl) ?_
  refine lv_aload_n C.1 C.2.1 dL_law_941 rfl (lv_at hl 0 rfl) ?_
  refine lv_iload_n C.1 C.2.1 dL_law_942 rfl (lv_at hl 3 rfl) ?_
  refine lv_iconst (v := 1) C.1 C.2.1 dL_law_943 (by decide) ?_
  refine lv_iadd C.1 C.2.1 dL_law_944 ?_
  refine va_sld C.1 C.2.1 hX0 hbl hbA hw.2.2.2.1 (hin 1 (by decide)) dL_law_945 ?_
  refine lv_aload_n C.1 C.2.1 dL_law_946 rfl (lv_at hl 0 rfl) ?_
  refine lv_iload_n C.1 C.2.1 dL_law_947 rfl (lv_at hl 3 rfl) ?_
  refine lv_iconst (v := 2) C.1 C.2.1 dL_law_948 (by decide) ?_
  refine lv_iadd C.1 C.2.1 dL_law_949 ?_
  refine va_sld C.1 C.2.1 hX0 hbl hbA hw.2.2.2.1 (hin 2 (by decide)) dL_law_950 ?_
  refine lv_aload_n C.1 C.2.1 dL_law_951 rfl (lv_at hl 0 rfl) ?_
  refine lv_iload_n C.1 C.2.1 dL_law_952 rfl (lv_at hl 3 rfl) ?_
  refine lv_iconst (v := 3) C.1 C.2.1 dL_law_953 (by decide) ?_
  refine lv_iadd C.1 C.2.1 dL_law_954 ?_
  refine va_sld C.1 C.2.1 hX0 hbl hbA hw.2.2.2.1 (hin 3 (by decide)) dL_law_955 ?_
  refine lv_aload_n C.1 C.2.1 dL_law_956 rfl (lv_at hl 0 rfl) ?_
  refine lv_iload_n C.1 C.2.1 dL_law_957 rfl (lv_at hl 3 rfl) ?_
  refine lv_iconst (v := 4) C.1 C.2.1 dL_law_958 (by decide) ?_
  refine lv_iadd C.1 C.2.1 dL_law_959 ?_
  refine va_sld C.1 C.2.1 hX0 hbl hbA hw.2.2.2.1 (hin 4 (by decide)) dL_law_960 ?_
  refine lv_aload_n C.1 C.2.1 dL_law_961 rfl (lv_at hl 0 rfl) ?_
  refine lv_iload_n C.1 C.2.1 dL_law_962 rfl (lv_at hl 3 rfl) ?_
  refine lv_iconst (v := 5) C.1 C.2.1 dL_law_963 (by decide) ?_
  refine lv_iadd C.1 C.2.1 dL_law_964 ?_
  refine va_sld C.1 C.2.1 hX0 hbl hbA hw.2.2.2.1 (hin 5 (by decide)) dL_law_965 ?_
  refine ea_runi2 hw (ea_runV (n := 5) C hw (hY 100 11 rfl) (by decide) (by decide) rfl (As := [.int (xs (x3 + 1).toNatClampNeg), .int (xs (x3 + 2).toNatClampNeg), .int (xs (x3 + 3).toNatClampNeg), .int (xs (x3 + 4).toNatClampNeg), .int (xs (x3 + 5).toNatClampNeg)]) (rest := [.int r]) (mX11_pair (l := l) (E := E) (ids := ids) hY e2) wc_X11_pair wi_RX11 wlL_91 wvL_X11_pair wzL_X11_pair (by decide +kernel) (by decide) rfl hl.1 rfl (Nat.le_of_ble_eq_true rfl) dL_law_966 hcs) (fun H locs hw => ?_)
  exact lv_icmp_eq (tgt := 1684) C.1 C.2.1 dL_law_969 (by decide) (fun _ => kk _ _ _ _ hI hw hl) (fun q => absurd rfl q)
set_option maxHeartbeats 4000000 in
set_option maxRecDepth 20000 in
theorem law_18 (C : ea_C p s m args meth c code 4 ret RL) (hX : ea_X ids) (hY : ea_Y ids) (hX0 : va_X b L xs s s.heap) (hbl : b < s.heap.size) (hbA : ¬ ea_Ad E ids b) (hcs : cells ≤ room_1.cells ∧ slots ≤ room_1.slots) (hin : ∀ k : Int32, (1 ≤ k ∧ k ≤ 6) → vp_in (x3 + k) L) (hw : ea_w E ids M s H locs) (hl : lv_has ls 4 [(0, .ref b), (1, .ref (E.1 0)), (2, .ref (E.1 100)), (3, .int x3)]) (hst : ∀ (a0 : Int32) (a1 : Int32) (a2 : Int32) (a3 : Int32) (a4 : Int32), (a4 = 0 ∨ a4 = 1) → ea_st Inv (fX10_was a0 a1 a2 a3 a4) (fX11_was a0 a1 a2 a3 a4)) (hM : Inv M)
    (kk : ∀ (M : eM) (H : Heap) (locs : List Loc) (ls : Array Slot), Inv M → ea_w E ids M s H locs → lv_has ls 4 [(0, .ref b), (1, .ref (E.1 0)), (2, .ref (E.1 100)), (3, .int x3)] → W p l e room_1 s m args below meth c H locs cells slots Q (F0 m 1684 ls [])) : W p l e room_1 s m args below meth c H locs cells slots Q (F0 m 974 ls []) := by
  refine lv_aload_n C.1 C.2.1 dL_law_974 rfl (lv_at hl 1 rfl) ?_
  refine lv_aload_n C.1 C.2.1 dL_law_975 rfl (lv_at hl 0 rfl) ?_
  refine lv_iload_n C.1 C.2.1 dL_law_976 rfl (lv_at hl 3 rfl) ?_
  refine lv_iconst (v := 1) C.1 C.2.1 dL_law_977 (by decide) ?_
  refine lv_iadd C.1 C.2.1 dL_law_978 ?_
  refine va_sld C.1 C.2.1 hX0 hbl hbA hw.2.2.2.1 (hin 1 (by decide)) dL_law_979 ?_
  refine lv_aload_n C.1 C.2.1 dL_law_980 rfl (lv_at hl 0 rfl) ?_
  refine lv_iload_n C.1 C.2.1 dL_law_981 rfl (lv_at hl 3 rfl) ?_
  refine lv_iconst (v := 2) C.1 C.2.1 dL_law_982 (by decide) ?_
  refine lv_iadd C.1 C.2.1 dL_law_983 ?_
  refine va_sld C.1 C.2.1 hX0 hbl hbA hw.2.2.2.1 (hin 2 (by decide)) dL_law_984 ?_
  refine lv_aload_n C.1 C.2.1 dL_law_985 rfl (lv_at hl 0 rfl) ?_
  refine lv_iload_n C.1 C.2.1 dL_law_986 rfl (lv_at hl 3 rfl) ?_
  refine lv_iconst (v := 3) C.1 C.2.1 dL_law_987 (by decide) ?_
  refine lv_iadd C.1 C.2.1 dL_law_988 ?_
  refine va_sld C.1 C.2.1 hX0 hbl hbA hw.2.2.2.1 (hin 3 (by decide)) dL_law_989 ?_
  refine lv_aload_n C.1 C.2.1 dL_law_990 rfl (lv_at hl 0 rfl) ?_
  refine lv_iload_n C.1 C.2.1 dL_law_991 rfl (lv_at hl 3 rfl) ?_
  refine lv_iconst (v := 4) C.1 C.2.1 dL_law_992 (by decide) ?_
  refine lv_iadd C.1 C.2.1 dL_law_993 ?_
  refine va_sld C.1 C.2.1 hX0 hbl hbA hw.2.2.2.1 (hin 4 (by decide)) dL_law_994 ?_
  refine lv_aload_n C.1 C.2.1 dL_law_995 rfl (lv_at hl 0 rfl) ?_
  refine lv_iload_n C.1 C.2.1 dL_law_996 rfl (lv_at hl 3 rfl) ?_
  refine lv_iconst (v := 5) C.1 C.2.1 dL_law_997 (by decide) ?_
  refine lv_iadd C.1 C.2.1 dL_law_998 ?_
  refine va_sld C.1 C.2.1 hX0 hbl hbA hw.2.2.2.1 (hin 5 (by decide)) dL_law_999 ?_
  refine lv_if_eq (tgt := 1007) C.1 C.2.1 dL_law_1000 (by decide) (fun hz => ?_) (fun hz => ?_)
  ·
    refine lv_iconst (v := 0) C.1 C.2.1 dL_law_1007 (by decide) ?_
    obtain ⟨r, M1, M2, e1, e2, hI⟩ := hst (xs (x3 + 1).toNatClampNeg) (xs (x3 + 2).toNatClampNeg) (xs (x3 + 3).toNatClampNeg) (xs (x3 + 4).toNatClampNeg) (0 : Int32) (by decide) M hM
    refine ea_runi2 hw (ea_runV (n := 5) C hw (hX 0 10 rfl) (by decide) (by decide) rfl (As := [.int (xs (x3 + 1).toNatClampNeg), .int (xs (x3 + 2).toNatClampNeg), .int (xs (x3 + 3).toNatClampNeg), .int (xs (x3 + 4).toNatClampNeg), .int (0 : Int32)]) (rest := []) (mX10_was (l := l) (E := E) (ids := ids) hX e1) wc_X10_was wi_RX10 wlL_92 wvL_X10_was wzL_X10_was (by decide +kernel) (by decide) rfl hl.1 rfl (Nat.le_of_ble_eq_true rfl) dL_law_1008 hcs) (fun H locs hw => ?_)
    refine lv_aload_n C.1 C.2.1 dL_law_1011 rfl (lv_at hl 2 rfl) ?_
    refine lv_aload_n C.1 C.2.1 dL_law_1012 rfl (lv_at hl 0 rfl) ?_
    refine lv_iload_n C.1 C.2.1 dL_law_1013 rfl (lv_at hl 3 rfl) ?_
    refine lv_iconst (v := 1) C.1 C.2.1 dL_law_1014 (by decide) ?_
    refine lv_iadd C.1 C.2.1 dL_law_1015 ?_
    refine va_sld C.1 C.2.1 hX0 hbl hbA hw.2.2.2.1 (hin 1 (by decide)) dL_law_1016 ?_
    refine lv_aload_n C.1 C.2.1 dL_law_1017 rfl (lv_at hl 0 rfl) ?_
    refine lv_iload_n C.1 C.2.1 dL_law_1018 rfl (lv_at hl 3 rfl) ?_
    refine lv_iconst (v := 2) C.1 C.2.1 dL_law_1019 (by decide) ?_
    refine lv_iadd C.1 C.2.1 dL_law_1020 ?_
    refine va_sld C.1 C.2.1 hX0 hbl hbA hw.2.2.2.1 (hin 2 (by decide)) dL_law_1021 ?_
    refine lv_aload_n C.1 C.2.1 dL_law_1022 rfl (lv_at hl 0 rfl) ?_
    refine lv_iload_n C.1 C.2.1 dL_law_1023 rfl (lv_at hl 3 rfl) ?_
    refine lv_iconst (v := 3) C.1 C.2.1 dL_law_1024 (by decide) ?_
    refine lv_iadd C.1 C.2.1 dL_law_1025 ?_
    refine va_sld C.1 C.2.1 hX0 hbl hbA hw.2.2.2.1 (hin 3 (by decide)) dL_law_1026 ?_
    refine lv_aload_n C.1 C.2.1 dL_law_1027 rfl (lv_at hl 0 rfl) ?_
    refine lv_iload_n C.1 C.2.1 dL_law_1028 rfl (lv_at hl 3 rfl) ?_
    refine lv_iconst (v := 4) C.1 C.2.1 dL_law_1029 (by decide) ?_
    refine lv_iadd C.1 C.2.1 dL_law_1030 ?_
    refine va_sld C.1 C.2.1 hX0 hbl hbA hw.2.2.2.1 (hin 4 (by decide)) dL_law_1031 ?_
    refine lv_aload_n C.1 C.2.1 dL_law_1032 rfl (lv_at hl 0 rfl) ?_
    refine lv_iload_n C.1 C.2.1 dL_law_1033 rfl (lv_at hl 3 rfl) ?_
    refine lv_iconst (v := 5) C.1 C.2.1 dL_law_1034 (by decide) ?_
    refine lv_iadd C.1 C.2.1 dL_law_1035 ?_
    refine va_sld C.1 C.2.1 hX0 hbl hbA hw.2.2.2.1 (hin 5 (by decide)) dL_law_1036 ?_
    refine lv_if_eq (tgt := 1044) C.1 C.2.1 dL_law_1037 (by decide) (fun _ => ?_) (fun q => absurd hz q)
    refine lv_iconst (v := 0) C.1 C.2.1 dL_law_1044 (by decide) ?_
    refine ea_runi2 hw (ea_runV (n := 5) C hw (hY 100 11 rfl) (by decide) (by decide) rfl (As := [.int (xs (x3 + 1).toNatClampNeg), .int (xs (x3 + 2).toNatClampNeg), .int (xs (x3 + 3).toNatClampNeg), .int (xs (x3 + 4).toNatClampNeg), .int (0 : Int32)]) (rest := [.int r]) (mX11_was (l := l) (E := E) (ids := ids) hY e2) wc_X11_was wi_RX11 wlL_96 wvL_X11_was wzL_X11_was (by decide +kernel) (by decide) rfl hl.1 rfl (Nat.le_of_ble_eq_true rfl) dL_law_1045 hcs) (fun H locs hw => ?_)
    exact lv_icmp_eq (tgt := 1684) C.1 C.2.1 dL_law_1048 (by decide) (fun _ => kk _ _ _ _ hI hw hl) (fun q => absurd rfl q)
  ·
    refine lv_iconst (v := 1) C.1 C.2.1 dL_law_1003 (by decide) ?_
    refine lv_goto (tgt := 1008) C.1 C.2.1 dL_law_1004 (by decide) ?_
    obtain ⟨r, M1, M2, e1, e2, hI⟩ := hst (xs (x3 + 1).toNatClampNeg) (xs (x3 + 2).toNatClampNeg) (xs (x3 + 3).toNatClampNeg) (xs (x3 + 4).toNatClampNeg) (1 : Int32) (by decide) M hM
    refine ea_runi2 hw (ea_runV (n := 5) C hw (hX 0 10 rfl) (by decide) (by decide) rfl (As := [.int (xs (x3 + 1).toNatClampNeg), .int (xs (x3 + 2).toNatClampNeg), .int (xs (x3 + 3).toNatClampNeg), .int (xs (x3 + 4).toNatClampNeg), .int (1 : Int32)]) (rest := []) (mX10_was (l := l) (E := E) (ids := ids) hX e1) wc_X10_was wi_RX10 wlL_92 wvL_X10_was wzL_X10_was (by decide +kernel) (by decide) rfl hl.1 rfl (Nat.le_of_ble_eq_true rfl) dL_law_1008 hcs) (fun H locs hw => ?_)
    refine lv_aload_n C.1 C.2.1 dL_law_1011 rfl (lv_at hl 2 rfl) ?_
    refine lv_aload_n C.1 C.2.1 dL_law_1012 rfl (lv_at hl 0 rfl) ?_
    refine lv_iload_n C.1 C.2.1 dL_law_1013 rfl (lv_at hl 3 rfl) ?_
    refine lv_iconst (v := 1) C.1 C.2.1 dL_law_1014 (by decide) ?_
    refine lv_iadd C.1 C.2.1 dL_law_1015 ?_
    refine va_sld C.1 C.2.1 hX0 hbl hbA hw.2.2.2.1 (hin 1 (by decide)) dL_law_1016 ?_
    refine lv_aload_n C.1 C.2.1 dL_law_1017 rfl (lv_at hl 0 rfl) ?_
    refine lv_iload_n C.1 C.2.1 dL_law_1018 rfl (lv_at hl 3 rfl) ?_
    refine lv_iconst (v := 2) C.1 C.2.1 dL_law_1019 (by decide) ?_
    refine lv_iadd C.1 C.2.1 dL_law_1020 ?_
    refine va_sld C.1 C.2.1 hX0 hbl hbA hw.2.2.2.1 (hin 2 (by decide)) dL_law_1021 ?_
    refine lv_aload_n C.1 C.2.1 dL_law_1022 rfl (lv_at hl 0 rfl) ?_
    refine lv_iload_n C.1 C.2.1 dL_law_1023 rfl (lv_at hl 3 rfl) ?_
    refine lv_iconst (v := 3) C.1 C.2.1 dL_law_1024 (by decide) ?_
    refine lv_iadd C.1 C.2.1 dL_law_1025 ?_
    refine va_sld C.1 C.2.1 hX0 hbl hbA hw.2.2.2.1 (hin 3 (by decide)) dL_law_1026 ?_
    refine lv_aload_n C.1 C.2.1 dL_law_1027 rfl (lv_at hl 0 rfl) ?_
    refine lv_iload_n C.1 C.2.1 dL_law_1028 rfl (lv_at hl 3 rfl) ?_
    refine lv_iconst (v := 4) C.1 C.2.1 dL_law_1029 (by decide) ?_
    refine lv_iadd C.1 C.2.1 dL_law_1030 ?_
    refine va_sld C.1 C.2.1 hX0 hbl hbA hw.2.2.2.1 (hin 4 (by decide)) dL_law_1031 ?_
    refine lv_aload_n C.1 C.2.1 dL_law_1032 rfl (lv_at hl 0 rfl) ?_
    refine lv_iload_n C.1 C.2.1 dL_law_1033 rfl (lv_at hl 3 rfl) ?_
    refine lv_iconst (v := 5) C.1 C.2.1 dL_law_1034 (by decide) ?_
    refine lv_iadd C.1 C.2.1 dL_law_1035 ?_
    refine va_sld C.1 C.2.1 hX0 hbl hbA hw.2.2.2.1 (hin 5 (by decide)) dL_law_1036 ?_
    refine lv_if_eq (tgt := 1044) C.1 C.2.1 dL_law_1037 (by decide) (fun q => absurd q hz) (fun _ => ?_)
    refine lv_iconst (v := 1) C.1 C.2.1 dL_law_1040 (by decide) ?_
    refine lv_goto (tgt := 1045) C.1 C.2.1 dL_law_1041 (by decide) ?_
    refine ea_runi2 hw (ea_runV (n := 5) C hw (hY 100 11 rfl) (by decide) (by decide) rfl (As := [.int (xs (x3 + 1).toNatClampNeg), .int (xs (x3 + 2).toNatClampNeg), .int (xs (x3 + 3).toNatClampNeg), .int (xs (x3 + 4).toNatClampNeg), .int (1 : Int32)]) (rest := [.int r]) (mX11_was (l := l) (E := E) (ids := ids) hY e2) wc_X11_was wi_RX11 wlL_96 wvL_X11_was wzL_X11_was (by decide +kernel) (by decide) rfl hl.1 rfl (Nat.le_of_ble_eq_true rfl) dL_law_1045 hcs) (fun H locs hw => ?_)
    exact lv_icmp_eq (tgt := 1684) C.1 C.2.1 dL_law_1048 (by decide) (fun _ => kk _ _ _ _ hI hw hl) (fun q => absurd rfl q)
set_option maxHeartbeats 4000000 in
set_option maxRecDepth 20000 in
theorem law_19 (C : ea_C p s m args meth c code 4 ret RL) (hX : ea_X ids) (hY : ea_Y ids) (hX0 : va_X b L xs s s.heap) (hbl : b < s.heap.size) (hbA : ¬ ea_Ad E ids b) (hcs : cells ≤ room_1.cells ∧ slots ≤ room_1.slots) (hin : ∀ k : Int32, (1 ≤ k ∧ k ≤ 6) → vp_in (x3 + k) L) (hw : ea_w E ids M s H locs) (hl : lv_has ls 4 [(0, .ref b), (1, .ref (E.1 0)), (2, .ref (E.1 100)), (3, .int x3)]) (hst : ∀ (a0 : Int32) (a1 : Int32) (a2 : Int32) (a3 : Int32) (a4 : Int32), ea_st Inv (fX10_grey a0 a1 a2 a3 a4) (fX11_grey a0 a1 a2 a3 a4)) (hM : Inv M)
    (kk : ∀ (M : eM) (H : Heap) (locs : List Loc) (ls : Array Slot), Inv M → ea_w E ids M s H locs → lv_has ls 4 [(0, .ref b), (1, .ref (E.1 0)), (2, .ref (E.1 100)), (3, .int x3)] → W p l e room_1 s m args below meth c H locs cells slots Q (F0 m 1684 ls [])) : W p l e room_1 s m args below meth c H locs cells slots Q (F0 m 1053 ls []) := by
  refine lv_aload_n C.1 C.2.1 dL_law_1053 rfl (lv_at hl 1 rfl) ?_
  refine lv_aload_n C.1 C.2.1 dL_law_1054 rfl (lv_at hl 0 rfl) ?_
  refine lv_iload_n C.1 C.2.1 dL_law_1055 rfl (lv_at hl 3 rfl) ?_
  refine lv_iconst (v := 1) C.1 C.2.1 dL_law_1056 (by decide) ?_
  refine lv_iadd C.1 C.2.1 dL_law_1057 ?_
  refine va_sld C.1 C.2.1 hX0 hbl hbA hw.2.2.2.1 (hin 1 (by decide)) dL_law_1058 ?_
  refine lv_aload_n C.1 C.2.1 dL_law_1059 rfl (lv_at hl 0 rfl) ?_
  refine lv_iload_n C.1 C.2.1 dL_law_1060 rfl (lv_at hl 3 rfl) ?_
  refine lv_iconst (v := 2) C.1 C.2.1 dL_law_1061 (by decide) ?_
  refine lv_iadd C.1 C.2.1 dL_law_1062 ?_
  refine va_sld C.1 C.2.1 hX0 hbl hbA hw.2.2.2.1 (hin 2 (by decide)) dL_law_1063 ?_
  refine lv_aload_n C.1 C.2.1 dL_law_1064 rfl (lv_at hl 0 rfl) ?_
  refine lv_iload_n C.1 C.2.1 dL_law_1065 rfl (lv_at hl 3 rfl) ?_
  refine lv_iconst (v := 3) C.1 C.2.1 dL_law_1066 (by decide) ?_
  refine lv_iadd C.1 C.2.1 dL_law_1067 ?_
  refine va_sld C.1 C.2.1 hX0 hbl hbA hw.2.2.2.1 (hin 3 (by decide)) dL_law_1068 ?_
  refine lv_aload_n C.1 C.2.1 dL_law_1069 rfl (lv_at hl 0 rfl) ?_
  refine lv_iload_n C.1 C.2.1 dL_law_1070 rfl (lv_at hl 3 rfl) ?_
  refine lv_iconst (v := 4) C.1 C.2.1 dL_law_1071 (by decide) ?_
  refine lv_iadd C.1 C.2.1 dL_law_1072 ?_
  refine va_sld C.1 C.2.1 hX0 hbl hbA hw.2.2.2.1 (hin 4 (by decide)) dL_law_1073 ?_
  refine lv_aload_n C.1 C.2.1 dL_law_1074 rfl (lv_at hl 0 rfl) ?_
  refine lv_iload_n C.1 C.2.1 dL_law_1075 rfl (lv_at hl 3 rfl) ?_
  refine lv_iconst (v := 5) C.1 C.2.1 dL_law_1076 (by decide) ?_
  refine lv_iadd C.1 C.2.1 dL_law_1077 ?_
  refine va_sld C.1 C.2.1 hX0 hbl hbA hw.2.2.2.1 (hin 5 (by decide)) dL_law_1078 ?_
  obtain ⟨r, M1, M2, e1, e2, hI⟩ := hst (xs (x3 + 1).toNatClampNeg) (xs (x3 + 2).toNatClampNeg) (xs (x3 + 3).toNatClampNeg) (xs (x3 + 4).toNatClampNeg) (xs (x3 + 5).toNatClampNeg) M hM
  refine ea_runi2 hw (ea_runV (n := 5) C hw (hX 0 10 rfl) (by decide) (by decide) rfl (As := [.int (xs (x3 + 1).toNatClampNeg), .int (xs (x3 + 2).toNatClampNeg), .int (xs (x3 + 3).toNatClampNeg), .int (xs (x3 + 4).toNatClampNeg), .int (xs (x3 + 5).toNatClampNeg)]) (rest := []) (mX10_grey (l := l) (E := E) (ids := ids) hX e1) wc_X10_grey wi_RX10 wlL_97 wvL_X10_grey wzL_X10_grey (by decide +kernel) (by decide) rfl hl.1 rfl (Nat.le_of_ble_eq_true rfl) dL_law_1079 hcs) (fun H locs hw => ?_)
  refine lv_aload_n C.1 C.2.1 dL_law_1082 rfl (lv_at hl 2 rfl) ?_
  refine lv_aload_n C.1 C.2.1 dL_law_1083 rfl (lv_at hl 0 rfl) ?_
  refine lv_iload_n C.1 C.2.1 dL_law_1084 rfl (lv_at hl 3 rfl) ?_
  refine lv_iconst (v := 1) C.1 C.2.1 dL_law_1085 (by decide) ?_
  refine lv_iadd C.1 C.2.1 dL_law_1086 ?_
  refine va_sld C.1 C.2.1 hX0 hbl hbA hw.2.2.2.1 (hin 1 (by decide)) dL_law_1087 ?_
  refine lv_aload_n C.1 C.2.1 dL_law_1088 rfl (lv_at hl 0 rfl) ?_
  refine lv_iload_n C.1 C.2.1 dL_law_1089 rfl (lv_at hl 3 rfl) ?_
  refine lv_iconst (v := 2) C.1 C.2.1 dL_law_1090 (by decide) ?_
  refine lv_iadd C.1 C.2.1 dL_law_1091 ?_
  refine va_sld C.1 C.2.1 hX0 hbl hbA hw.2.2.2.1 (hin 2 (by decide)) dL_law_1092 ?_
  refine lv_aload_n C.1 C.2.1 dL_law_1093 rfl (lv_at hl 0 rfl) ?_
  refine lv_iload_n C.1 C.2.1 dL_law_1094 rfl (lv_at hl 3 rfl) ?_
  refine lv_iconst (v := 3) C.1 C.2.1 dL_law_1095 (by decide) ?_
  refine lv_iadd C.1 C.2.1 dL_law_1096 ?_
  refine va_sld C.1 C.2.1 hX0 hbl hbA hw.2.2.2.1 (hin 3 (by decide)) dL_law_1097 ?_
  refine lv_aload_n C.1 C.2.1 dL_law_1098 rfl (lv_at hl 0 rfl) ?_
  refine lv_iload_n C.1 C.2.1 dL_law_1099 rfl (lv_at hl 3 rfl) ?_
  refine lv_iconst (v := 4) C.1 C.2.1 dL_law_1100 (by decide) ?_
  refine lv_iadd C.1 C.2.1 dL_law_1101 ?_
  refine va_sld C.1 C.2.1 hX0 hbl hbA hw.2.2.2.1 (hin 4 (by decide)) dL_law_1102 ?_
  refine lv_aload_n C.1 C.2.1 dL_law_1103 rfl (lv_at hl 0 rfl) ?_
  refine lv_iload_n C.1 C.2.1 dL_law_1104 rfl (lv_at hl 3 rfl) ?_
  refine lv_iconst (v := 5) C.1 C.2.1 dL_law_1105 (by decide) ?_
  refine lv_iadd C.1 C.2.1 dL_law_1106 ?_
  refine va_sld C.1 C.2.1 hX0 hbl hbA hw.2.2.2.1 (hin 5 (by decide)) dL_law_1107 ?_
  refine ea_runi2 hw (ea_runV (n := 5) C hw (hY 100 11 rfl) (by decide) (by decide) rfl (As := [.int (xs (x3 + 1).toNatClampNeg), .int (xs (x3 + 2).toNatClampNeg), .int (xs (x3 + 3).toNatClampNeg), .int (xs (x3 + 4).toNatClampNeg), .int (xs (x3 + 5).toNatClampNeg)]) (rest := [.int r]) (mX11_grey (l := l) (E := E) (ids := ids) hY e2) wc_X11_grey wi_RX11 wlL_100 wvL_X11_grey wzL_X11_grey (by decide +kernel) (by decide) rfl hl.1 rfl (Nat.le_of_ble_eq_true rfl) dL_law_1108 hcs) (fun H locs hw => ?_)
  exact lv_icmp_eq (tgt := 1684) C.1 C.2.1 dL_law_1111 (by decide) (fun _ => kk _ _ _ _ hI hw hl) (fun q => absurd rfl q)
set_option maxHeartbeats 4000000 in
set_option maxRecDepth 20000 in
theorem law_20 (C : ea_C p s m args meth c code 4 ret RL) (hX : ea_X ids) (hY : ea_Y ids) (hX0 : va_X b L xs s s.heap) (hbl : b < s.heap.size) (hbA : ¬ ea_Ad E ids b) (hcs : cells ≤ room_1.cells ∧ slots ≤ room_1.slots) (hin : ∀ k : Int32, (1 ≤ k ∧ k ≤ 6) → vp_in (x3 + k) L) (hw : ea_w E ids M s H locs) (hl : lv_has ls 4 [(0, .ref b), (1, .ref (E.1 0)), (2, .ref (E.1 100)), (3, .int x3)]) (hst : ∀ (a0 : Int32) (a1 : Int32) (a2 : Int32), ea_st Inv (fX10_mended a0 a1 a2) (fX11_mended a0 a1 a2)) (hM : Inv M)
    (kk : ∀ (M : eM) (H : Heap) (locs : List Loc) (ls : Array Slot), Inv M → ea_w E ids M s H locs → lv_has ls 4 [(0, .ref b), (1, .ref (E.1 0)), (2, .ref (E.1 100)), (3, .int x3)] → W p l e room_1 s m args below meth c H locs cells slots Q (F0 m 1684 ls [])) : W p l e room_1 s m args below meth c H locs cells slots Q (F0 m 1116 ls []) := by
  refine lv_aload_n C.1 C.2.1 dL_law_1116 rfl (lv_at hl 1 rfl) ?_
  refine lv_aload_n C.1 C.2.1 dL_law_1117 rfl (lv_at hl 0 rfl) ?_
  refine lv_iload_n C.1 C.2.1 dL_law_1118 rfl (lv_at hl 3 rfl) ?_
  refine lv_iconst (v := 1) C.1 C.2.1 dL_law_1119 (by decide) ?_
  refine lv_iadd C.1 C.2.1 dL_law_1120 ?_
  refine va_sld C.1 C.2.1 hX0 hbl hbA hw.2.2.2.1 (hin 1 (by decide)) dL_law_1121 ?_
  refine lv_aload_n C.1 C.2.1 dL_law_1122 rfl (lv_at hl 0 rfl) ?_
  refine lv_iload_n C.1 C.2.1 dL_law_1123 rfl (lv_at hl 3 rfl) ?_
  refine lv_iconst (v := 2) C.1 C.2.1 dL_law_1124 (by decide) ?_
  refine lv_iadd C.1 C.2.1 dL_law_1125 ?_
  refine va_sld C.1 C.2.1 hX0 hbl hbA hw.2.2.2.1 (hin 2 (by decide)) dL_law_1126 ?_
  refine lv_aload_n C.1 C.2.1 dL_law_1127 rfl (lv_at hl 0 rfl) ?_
  refine lv_iload_n C.1 C.2.1 dL_law_1128 rfl (lv_at hl 3 rfl) ?_
  refine lv_iconst (v := 3) C.1 C.2.1 dL_law_1129 (by decide) ?_
  refine lv_iadd C.1 C.2.1 dL_law_1130 ?_
  refine va_sld C.1 C.2.1 hX0 hbl hbA hw.2.2.2.1 (hin 3 (by decide)) dL_law_1131 ?_
  obtain ⟨r, M1, M2, e1, e2, hI⟩ := hst (xs (x3 + 1).toNatClampNeg) (xs (x3 + 2).toNatClampNeg) (xs (x3 + 3).toNatClampNeg) M hM
  refine ea_runi2 hw (ea_runV (n := 3) C hw (hX 0 10 rfl) (by decide) (by decide) rfl (As := [.int (xs (x3 + 1).toNatClampNeg), .int (xs (x3 + 2).toNatClampNeg), .int (xs (x3 + 3).toNatClampNeg)]) (rest := []) (mX10_mended (l := l) (E := E) (ids := ids) hX e1) wc_X10_mended wi_RX10 wlL_101 wvL_X10_mended wzL_X10_mended (by decide +kernel) (by decide) rfl hl.1 rfl (Nat.le_of_ble_eq_true rfl) dL_law_1132 hcs) (fun H locs hw => ?_)
  refine lv_aload_n C.1 C.2.1 dL_law_1135 rfl (lv_at hl 2 rfl) ?_
  refine lv_aload_n C.1 C.2.1 dL_law_1136 rfl (lv_at hl 0 rfl) ?_
  refine lv_iload_n C.1 C.2.1 dL_law_1137 rfl (lv_at hl 3 rfl) ?_
  refine lv_iconst (v := 1) C.1 C.2.1 dL_law_1138 (by decide) ?_
  refine lv_iadd C.1 C.2.1 dL_law_1139 ?_
  refine va_sld C.1 C.2.1 hX0 hbl hbA hw.2.2.2.1 (hin 1 (by decide)) dL_law_1140 ?_
  refine lv_aload_n C.1 C.2.1 dL_law_1141 rfl (lv_at hl 0 rfl) ?_
  refine lv_iload_n C.1 C.2.1 dL_law_1142 rfl (lv_at hl 3 rfl) ?_
  refine lv_iconst (v := 2) C.1 C.2.1 dL_law_1143 (by decide) ?_
  refine lv_iadd C.1 C.2.1 dL_law_1144 ?_
  refine va_sld C.1 C.2.1 hX0 hbl hbA hw.2.2.2.1 (hin 2 (by decide)) dL_law_1145 ?_
  refine lv_aload_n C.1 C.2.1 dL_law_1146 rfl (lv_at hl 0 rfl) ?_
  refine lv_iload_n C.1 C.2.1 dL_law_1147 rfl (lv_at hl 3 rfl) ?_
  refine lv_iconst (v := 3) C.1 C.2.1 dL_law_1148 (by decide) ?_
  refine lv_iadd C.1 C.2.1 dL_law_1149 ?_
  refine va_sld C.1 C.2.1 hX0 hbl hbA hw.2.2.2.1 (hin 3 (by decide)) dL_law_1150 ?_
  refine ea_runi2 hw (ea_runV (n := 3) C hw (hY 100 11 rfl) (by decide) (by decide) rfl (As := [.int (xs (x3 + 1).toNatClampNeg), .int (xs (x3 + 2).toNatClampNeg), .int (xs (x3 + 3).toNatClampNeg)]) (rest := [.int r]) (mX11_mended (l := l) (E := E) (ids := ids) hY e2) wc_X11_mended wi_RX11 wlL_104 wvL_X11_mended wzL_X11_mended (by decide +kernel) (by decide) rfl hl.1 rfl (Nat.le_of_ble_eq_true rfl) dL_law_1151 hcs) (fun H locs hw => ?_)
  exact lv_icmp_eq (tgt := 1684) C.1 C.2.1 dL_law_1154 (by decide) (fun _ => kk _ _ _ _ hI hw hl) (fun q => absurd rfl q)
set_option maxHeartbeats 4000000 in
set_option maxRecDepth 20000 in
theorem law_21 (C : ea_C p s m args meth c code 4 ret RL) (hX : ea_X ids) (hY : ea_Y ids) (hX0 : va_X b L xs s s.heap) (hbl : b < s.heap.size) (hbA : ¬ ea_Ad E ids b) (hcs : cells ≤ room_1.cells ∧ slots ≤ room_1.slots) (hin : ∀ k : Int32, (1 ≤ k ∧ k ≤ 6) → vp_in (x3 + k) L) (hw : ea_w E ids M s H locs) (hl : lv_has ls 4 [(0, .ref b), (1, .ref (E.1 0)), (2, .ref (E.1 100)), (3, .int x3)]) (hst : ∀ (a0 : Int32) (a1 : Int32) (a2 : Int32) (a3 : Int32) (a4 : Int32), (a4 = 0 ∨ a4 = 1) → ea_st Inv (fX10_lightBack a0 a1 a2 a3 a4) (fX11_lightBack a0 a1 a2 a3 a4)) (hM : Inv M)
    (kk : ∀ (M : eM) (H : Heap) (locs : List Loc) (ls : Array Slot), Inv M → ea_w E ids M s H locs → lv_has ls 4 [(0, .ref b), (1, .ref (E.1 0)), (2, .ref (E.1 100)), (3, .int x3)] → W p l e room_1 s m args below meth c H locs cells slots Q (F0 m 1684 ls [])) : W p l e room_1 s m args below meth c H locs cells slots Q (F0 m 1159 ls []) := by
  refine lv_aload_n C.1 C.2.1 dL_law_1159 rfl (lv_at hl 1 rfl) ?_
  refine lv_aload_n C.1 C.2.1 dL_law_1160 rfl (lv_at hl 0 rfl) ?_
  refine lv_iload_n C.1 C.2.1 dL_law_1161 rfl (lv_at hl 3 rfl) ?_
  refine lv_iconst (v := 1) C.1 C.2.1 dL_law_1162 (by decide) ?_
  refine lv_iadd C.1 C.2.1 dL_law_1163 ?_
  refine va_sld C.1 C.2.1 hX0 hbl hbA hw.2.2.2.1 (hin 1 (by decide)) dL_law_1164 ?_
  refine lv_aload_n C.1 C.2.1 dL_law_1165 rfl (lv_at hl 0 rfl) ?_
  refine lv_iload_n C.1 C.2.1 dL_law_1166 rfl (lv_at hl 3 rfl) ?_
  refine lv_iconst (v := 2) C.1 C.2.1 dL_law_1167 (by decide) ?_
  refine lv_iadd C.1 C.2.1 dL_law_1168 ?_
  refine va_sld C.1 C.2.1 hX0 hbl hbA hw.2.2.2.1 (hin 2 (by decide)) dL_law_1169 ?_
  refine lv_aload_n C.1 C.2.1 dL_law_1170 rfl (lv_at hl 0 rfl) ?_
  refine lv_iload_n C.1 C.2.1 dL_law_1171 rfl (lv_at hl 3 rfl) ?_
  refine lv_iconst (v := 3) C.1 C.2.1 dL_law_1172 (by decide) ?_
  refine lv_iadd C.1 C.2.1 dL_law_1173 ?_
  refine va_sld C.1 C.2.1 hX0 hbl hbA hw.2.2.2.1 (hin 3 (by decide)) dL_law_1174 ?_
  refine lv_aload_n C.1 C.2.1 dL_law_1175 rfl (lv_at hl 0 rfl) ?_
  refine lv_iload_n C.1 C.2.1 dL_law_1176 rfl (lv_at hl 3 rfl) ?_
  refine lv_iconst (v := 4) C.1 C.2.1 dL_law_1177 (by decide) ?_
  refine lv_iadd C.1 C.2.1 dL_law_1178 ?_
  refine va_sld C.1 C.2.1 hX0 hbl hbA hw.2.2.2.1 (hin 4 (by decide)) dL_law_1179 ?_
  refine lv_aload_n C.1 C.2.1 dL_law_1180 rfl (lv_at hl 0 rfl) ?_
  refine lv_iload_n C.1 C.2.1 dL_law_1181 rfl (lv_at hl 3 rfl) ?_
  refine lv_iconst (v := 5) C.1 C.2.1 dL_law_1182 (by decide) ?_
  refine lv_iadd C.1 C.2.1 dL_law_1183 ?_
  refine va_sld C.1 C.2.1 hX0 hbl hbA hw.2.2.2.1 (hin 5 (by decide)) dL_law_1184 ?_
  refine lv_if_eq (tgt := 1192) C.1 C.2.1 dL_law_1185 (by decide) (fun hz => ?_) (fun hz => ?_)
  ·
    refine lv_iconst (v := 0) C.1 C.2.1 dL_law_1192 (by decide) ?_
    obtain ⟨r, M1, M2, e1, e2, hI⟩ := hst (xs (x3 + 1).toNatClampNeg) (xs (x3 + 2).toNatClampNeg) (xs (x3 + 3).toNatClampNeg) (xs (x3 + 4).toNatClampNeg) (0 : Int32) (by decide) M hM
    refine ea_runi2 hw (ea_runV (n := 5) C hw (hX 0 10 rfl) (by decide) (by decide) rfl (As := [.int (xs (x3 + 1).toNatClampNeg), .int (xs (x3 + 2).toNatClampNeg), .int (xs (x3 + 3).toNatClampNeg), .int (xs (x3 + 4).toNatClampNeg), .int (0 : Int32)]) (rest := []) (mX10_lightBack (l := l) (E := E) (ids := ids) hX e1) wc_X10_lightBack wi_RX10 wlL_105 wvL_X10_lightBack wzL_X10_lightBack (by decide +kernel) (by decide) rfl hl.1 rfl (Nat.le_of_ble_eq_true rfl) dL_law_1193 hcs) (fun H locs hw => ?_)
    refine lv_aload_n C.1 C.2.1 dL_law_1196 rfl (lv_at hl 2 rfl) ?_
    refine lv_aload_n C.1 C.2.1 dL_law_1197 rfl (lv_at hl 0 rfl) ?_
    refine lv_iload_n C.1 C.2.1 dL_law_1198 rfl (lv_at hl 3 rfl) ?_
    refine lv_iconst (v := 1) C.1 C.2.1 dL_law_1199 (by decide) ?_
    refine lv_iadd C.1 C.2.1 dL_law_1200 ?_
    refine va_sld C.1 C.2.1 hX0 hbl hbA hw.2.2.2.1 (hin 1 (by decide)) dL_law_1201 ?_
    refine lv_aload_n C.1 C.2.1 dL_law_1202 rfl (lv_at hl 0 rfl) ?_
    refine lv_iload_n C.1 C.2.1 dL_law_1203 rfl (lv_at hl 3 rfl) ?_
    refine lv_iconst (v := 2) C.1 C.2.1 dL_law_1204 (by decide) ?_
    refine lv_iadd C.1 C.2.1 dL_law_1205 ?_
    refine va_sld C.1 C.2.1 hX0 hbl hbA hw.2.2.2.1 (hin 2 (by decide)) dL_law_1206 ?_
    refine lv_aload_n C.1 C.2.1 dL_law_1207 rfl (lv_at hl 0 rfl) ?_
    refine lv_iload_n C.1 C.2.1 dL_law_1208 rfl (lv_at hl 3 rfl) ?_
    refine lv_iconst (v := 3) C.1 C.2.1 dL_law_1209 (by decide) ?_
    refine lv_iadd C.1 C.2.1 dL_law_1210 ?_
    refine va_sld C.1 C.2.1 hX0 hbl hbA hw.2.2.2.1 (hin 3 (by decide)) dL_law_1211 ?_
    refine lv_aload_n C.1 C.2.1 dL_law_1212 rfl (lv_at hl 0 rfl) ?_
    refine lv_iload_n C.1 C.2.1 dL_law_1213 rfl (lv_at hl 3 rfl) ?_
    refine lv_iconst (v := 4) C.1 C.2.1 dL_law_1214 (by decide) ?_
    refine lv_iadd C.1 C.2.1 dL_law_1215 ?_
    refine va_sld C.1 C.2.1 hX0 hbl hbA hw.2.2.2.1 (hin 4 (by decide)) dL_law_1216 ?_
    refine lv_aload_n C.1 C.2.1 dL_law_1217 rfl (lv_at hl 0 rfl) ?_
    refine lv_iload_n C.1 C.2.1 dL_law_1218 rfl (lv_at hl 3 rfl) ?_
    refine lv_iconst (v := 5) C.1 C.2.1 dL_law_1219 (by decide) ?_
    refine lv_iadd C.1 C.2.1 dL_law_1220 ?_
    refine va_sld C.1 C.2.1 hX0 hbl hbA hw.2.2.2.1 (hin 5 (by decide)) dL_law_1221 ?_
    refine lv_if_eq (tgt := 1229) C.1 C.2.1 dL_law_1222 (by decide) (fun _ => ?_) (fun q => absurd hz q)
    refine lv_iconst (v := 0) C.1 C.2.1 dL_law_1229 (by decide) ?_
    refine ea_runi2 hw (ea_runV (n := 5) C hw (hY 100 11 rfl) (by decide) (by decide) rfl (As := [.int (xs (x3 + 1).toNatClampNeg), .int (xs (x3 + 2).toNatClampNeg), .int (xs (x3 + 3).toNatClampNeg), .int (xs (x3 + 4).toNatClampNeg), .int (0 : Int32)]) (rest := [.int r]) (mX11_lightBack (l := l) (E := E) (ids := ids) hY e2) wc_X11_lightBack wi_RX11 wlL_108 wvL_X11_lightBack wzL_X11_lightBack (by decide +kernel) (by decide) rfl hl.1 rfl (Nat.le_of_ble_eq_true rfl) dL_law_1230 hcs) (fun H locs hw => ?_)
    exact lv_icmp_eq (tgt := 1684) C.1 C.2.1 dL_law_1233 (by decide) (fun _ => kk _ _ _ _ hI hw hl) (fun q => absurd rfl q)
  ·
    refine lv_iconst (v := 1) C.1 C.2.1 dL_law_1188 (by decide) ?_
    refine lv_goto (tgt := 1193) C.1 C.2.1 dL_law_1189 (by decide) ?_
    obtain ⟨r, M1, M2, e1, e2, hI⟩ := hst (xs (x3 + 1).toNatClampNeg) (xs (x3 + 2).toNatClampNeg) (xs (x3 + 3).toNatClampNeg) (xs (x3 + 4).toNatClampNeg) (1 : Int32) (by decide) M hM
    refine ea_runi2 hw (ea_runV (n := 5) C hw (hX 0 10 rfl) (by decide) (by decide) rfl (As := [.int (xs (x3 + 1).toNatClampNeg), .int (xs (x3 + 2).toNatClampNeg), .int (xs (x3 + 3).toNatClampNeg), .int (xs (x3 + 4).toNatClampNeg), .int (1 : Int32)]) (rest := []) (mX10_lightBack (l := l) (E := E) (ids := ids) hX e1) wc_X10_lightBack wi_RX10 wlL_105 wvL_X10_lightBack wzL_X10_lightBack (by decide +kernel) (by decide) rfl hl.1 rfl (Nat.le_of_ble_eq_true rfl) dL_law_1193 hcs) (fun H locs hw => ?_)
    refine lv_aload_n C.1 C.2.1 dL_law_1196 rfl (lv_at hl 2 rfl) ?_
    refine lv_aload_n C.1 C.2.1 dL_law_1197 rfl (lv_at hl 0 rfl) ?_
    refine lv_iload_n C.1 C.2.1 dL_law_1198 rfl (lv_at hl 3 rfl) ?_
    refine lv_iconst (v := 1) C.1 C.2.1 dL_law_1199 (by decide) ?_
    refine lv_iadd C.1 C.2.1 dL_law_1200 ?_
    refine va_sld C.1 C.2.1 hX0 hbl hbA hw.2.2.2.1 (hin 1 (by decide)) dL_law_1201 ?_
    refine lv_aload_n C.1 C.2.1 dL_law_1202 rfl (lv_at hl 0 rfl) ?_
    refine lv_iload_n C.1 C.2.1 dL_law_1203 rfl (lv_at hl 3 rfl) ?_
    refine lv_iconst (v := 2) C.1 C.2.1 dL_law_1204 (by decide) ?_
    refine lv_iadd C.1 C.2.1 dL_law_1205 ?_
    refine va_sld C.1 C.2.1 hX0 hbl hbA hw.2.2.2.1 (hin 2 (by decide)) dL_law_1206 ?_
    refine lv_aload_n C.1 C.2.1 dL_law_1207 rfl (lv_at hl 0 rfl) ?_
    refine lv_iload_n C.1 C.2.1 dL_law_1208 rfl (lv_at hl 3 rfl) ?_
    refine lv_iconst (v := 3) C.1 C.2.1 dL_law_1209 (by decide) ?_
    refine lv_iadd C.1 C.2.1 dL_law_1210 ?_
    refine va_sld C.1 C.2.1 hX0 hbl hbA hw.2.2.2.1 (hin 3 (by decide)) dL_law_1211 ?_
    refine lv_aload_n C.1 C.2.1 dL_law_1212 rfl (lv_at hl 0 rfl) ?_
    refine lv_iload_n C.1 C.2.1 dL_law_1213 rfl (lv_at hl 3 rfl) ?_
    refine lv_iconst (v := 4) C.1 C.2.1 dL_law_1214 (by decide) ?_
    refine lv_iadd C.1 C.2.1 dL_law_1215 ?_
    refine va_sld C.1 C.2.1 hX0 hbl hbA hw.2.2.2.1 (hin 4 (by decide)) dL_law_1216 ?_
    refine lv_aload_n C.1 C.2.1 dL_law_1217 rfl (lv_at hl 0 rfl) ?_
    refine lv_iload_n C.1 C.2.1 dL_law_1218 rfl (lv_at hl 3 rfl) ?_
    refine lv_iconst (v := 5) C.1 C.2.1 dL_law_1219 (by decide) ?_
    refine lv_iadd C.1 C.2.1 dL_law_1220 ?_
    refine va_sld C.1 C.2.1 hX0 hbl hbA hw.2.2.2.1 (hin 5 (by decide)) dL_law_1221 ?_
    refine lv_if_eq (tgt := 1229) C.1 C.2.1 dL_law_1222 (by decide) (fun q => absurd q hz) (fun _ => ?_)
    refine lv_iconst (v := 1) C.1 C.2.1 dL_law_1225 (by decide) ?_
    refine lv_goto (tgt := 1230) C.1 C.2.1 dL_law_1226 (by decide) ?_
    refine ea_runi2 hw (ea_runV (n := 5) C hw (hY 100 11 rfl) (by decide) (by decide) rfl (As := [.int (xs (x3 + 1).toNatClampNeg), .int (xs (x3 + 2).toNatClampNeg), .int (xs (x3 + 3).toNatClampNeg), .int (xs (x3 + 4).toNatClampNeg), .int (1 : Int32)]) (rest := [.int r]) (mX11_lightBack (l := l) (E := E) (ids := ids) hY e2) wc_X11_lightBack wi_RX11 wlL_108 wvL_X11_lightBack wzL_X11_lightBack (by decide +kernel) (by decide) rfl hl.1 rfl (Nat.le_of_ble_eq_true rfl) dL_law_1230 hcs) (fun H locs hw => ?_)
    exact lv_icmp_eq (tgt := 1684) C.1 C.2.1 dL_law_1233 (by decide) (fun _ => kk _ _ _ _ hI hw hl) (fun q => absurd rfl q)
set_option maxHeartbeats 4000000 in
set_option maxRecDepth 20000 in
theorem law_22 (C : ea_C p s m args meth c code 4 ret RL) (hX : ea_X ids) (hY : ea_Y ids) (hX0 : va_X b L xs s s.heap) (hbl : b < s.heap.size) (hbA : ¬ ea_Ad E ids b) (hcs : cells ≤ room_1.cells ∧ slots ≤ room_1.slots) (hin : ∀ k : Int32, (1 ≤ k ∧ k ≤ 6) → vp_in (x3 + k) L) (hw : ea_w E ids M s H locs) (hl : lv_has ls 4 [(0, .ref b), (1, .ref (E.1 0)), (2, .ref (E.1 100)), (3, .int x3)]) (hst : ∀ (a0 : Int32), ea_st Inv (fX10_stories a0) (fX11_stories a0)) (hM : Inv M)
    (kk : ∀ (M : eM) (H : Heap) (locs : List Loc) (ls : Array Slot), Inv M → ea_w E ids M s H locs → lv_has ls 4 [(0, .ref b), (1, .ref (E.1 0)), (2, .ref (E.1 100)), (3, .int x3)] → W p l e room_1 s m args below meth c H locs cells slots Q (F0 m 1684 ls [])) : W p l e room_1 s m args below meth c H locs cells slots Q (F0 m 1238 ls []) := by
  refine lv_aload_n C.1 C.2.1 dL_law_1238 rfl (lv_at hl 1 rfl) ?_
  refine lv_aload_n C.1 C.2.1 dL_law_1239 rfl (lv_at hl 0 rfl) ?_
  refine lv_iload_n C.1 C.2.1 dL_law_1240 rfl (lv_at hl 3 rfl) ?_
  refine lv_iconst (v := 1) C.1 C.2.1 dL_law_1241 (by decide) ?_
  refine lv_iadd C.1 C.2.1 dL_law_1242 ?_
  refine va_sld C.1 C.2.1 hX0 hbl hbA hw.2.2.2.1 (hin 1 (by decide)) dL_law_1243 ?_
  obtain ⟨r, M1, M2, e1, e2, hI⟩ := hst (xs (x3 + 1).toNatClampNeg) M hM
  refine ea_runi2 hw (ea_runV (n := 1) C hw (hX 0 10 rfl) (by decide) (by decide) rfl (As := [.int (xs (x3 + 1).toNatClampNeg)]) (rest := []) (mX10_stories (l := l) (E := E) (ids := ids) hX e1) wc_X10_stories wi_RX10 wlL_109 wvL_X10_stories wzL_X10_stories (by decide +kernel) (by decide) rfl hl.1 rfl (Nat.le_of_ble_eq_true rfl) dL_law_1244 hcs) (fun H locs hw => ?_)
  refine lv_aload_n C.1 C.2.1 dL_law_1247 rfl (lv_at hl 2 rfl) ?_
  refine lv_aload_n C.1 C.2.1 dL_law_1248 rfl (lv_at hl 0 rfl) ?_
  refine lv_iload_n C.1 C.2.1 dL_law_1249 rfl (lv_at hl 3 rfl) ?_
  refine lv_iconst (v := 1) C.1 C.2.1 dL_law_1250 (by decide) ?_
  refine lv_iadd C.1 C.2.1 dL_law_1251 ?_
  refine va_sld C.1 C.2.1 hX0 hbl hbA hw.2.2.2.1 (hin 1 (by decide)) dL_law_1252 ?_
  refine ea_runi2 hw (ea_runV (n := 1) C hw (hY 100 11 rfl) (by decide) (by decide) rfl (As := [.int (xs (x3 + 1).toNatClampNeg)]) (rest := [.int r]) (mX11_stories (l := l) (E := E) (ids := ids) hY e2) wc_X11_stories wi_RX11 wlL_112 wvL_X11_stories wzL_X11_stories (by decide +kernel) (by decide) rfl hl.1 rfl (Nat.le_of_ble_eq_true rfl) dL_law_1253 hcs) (fun H locs hw => ?_)
  exact lv_icmp_eq (tgt := 1684) C.1 C.2.1 dL_law_1256 (by decide) (fun _ => kk _ _ _ _ hI hw hl) (fun q => absurd rfl q)
set_option maxHeartbeats 4000000 in
set_option maxRecDepth 20000 in
theorem law_23 (C : ea_C p s m args meth c code 4 ret RL) (hX : ea_X ids) (hY : ea_Y ids) (hX0 : va_X b L xs s s.heap) (hbl : b < s.heap.size) (hbA : ¬ ea_Ad E ids b) (hcs : cells ≤ room_1.cells ∧ slots ≤ room_1.slots) (hin : ∀ k : Int32, (1 ≤ k ∧ k ≤ 6) → vp_in (x3 + k) L) (hw : ea_w E ids M s H locs) (hl : lv_has ls 4 [(0, .ref b), (1, .ref (E.1 0)), (2, .ref (E.1 100)), (3, .int x3)]) (hst : ∀ (a0 : Int32) (a1 : Int32) (a2 : Int32) (a3 : Int32) (a4 : Int32), (a4 = 0 ∨ a4 = 1) → ea_st Inv (fX10_vat a0 a1 a2 a3 a4) (fX11_vat a0 a1 a2 a3 a4)) (hM : Inv M)
    (kk : ∀ (M : eM) (H : Heap) (locs : List Loc) (ls : Array Slot), Inv M → ea_w E ids M s H locs → lv_has ls 4 [(0, .ref b), (1, .ref (E.1 0)), (2, .ref (E.1 100)), (3, .int x3)] → W p l e room_1 s m args below meth c H locs cells slots Q (F0 m 1684 ls [])) : W p l e room_1 s m args below meth c H locs cells slots Q (F0 m 1261 ls []) := by
  refine lv_aload_n C.1 C.2.1 dL_law_1261 rfl (lv_at hl 1 rfl) ?_
  refine lv_aload_n C.1 C.2.1 dL_law_1262 rfl (lv_at hl 0 rfl) ?_
  refine lv_iload_n C.1 C.2.1 dL_law_1263 rfl (lv_at hl 3 rfl) ?_
  refine lv_iconst (v := 1) C.1 C.2.1 dL_law_1264 (by decide) ?_
  refine lv_iadd C.1 C.2.1 dL_law_1265 ?_
  refine va_sld C.1 C.2.1 hX0 hbl hbA hw.2.2.2.1 (hin 1 (by decide)) dL_law_1266 ?_
  refine lv_aload_n C.1 C.2.1 dL_law_1267 rfl (lv_at hl 0 rfl) ?_
  refine lv_iload_n C.1 C.2.1 dL_law_1268 rfl (lv_at hl 3 rfl) ?_
  refine lv_iconst (v := 2) C.1 C.2.1 dL_law_1269 (by decide) ?_
  refine lv_iadd C.1 C.2.1 dL_law_1270 ?_
  refine va_sld C.1 C.2.1 hX0 hbl hbA hw.2.2.2.1 (hin 2 (by decide)) dL_law_1271 ?_
  refine lv_aload_n C.1 C.2.1 dL_law_1272 rfl (lv_at hl 0 rfl) ?_
  refine lv_iload_n C.1 C.2.1 dL_law_1273 rfl (lv_at hl 3 rfl) ?_
  refine lv_iconst (v := 3) C.1 C.2.1 dL_law_1274 (by decide) ?_
  refine lv_iadd C.1 C.2.1 dL_law_1275 ?_
  refine va_sld C.1 C.2.1 hX0 hbl hbA hw.2.2.2.1 (hin 3 (by decide)) dL_law_1276 ?_
  refine lv_aload_n C.1 C.2.1 dL_law_1277 rfl (lv_at hl 0 rfl) ?_
  refine lv_iload_n C.1 C.2.1 dL_law_1278 rfl (lv_at hl 3 rfl) ?_
  refine lv_iconst (v := 4) C.1 C.2.1 dL_law_1279 (by decide) ?_
  refine lv_iadd C.1 C.2.1 dL_law_1280 ?_
  refine va_sld C.1 C.2.1 hX0 hbl hbA hw.2.2.2.1 (hin 4 (by decide)) dL_law_1281 ?_
  refine lv_aload_n C.1 C.2.1 dL_law_1282 rfl (lv_at hl 0 rfl) ?_
  refine lv_iload_n C.1 C.2.1 dL_law_1283 rfl (lv_at hl 3 rfl) ?_
  refine lv_iconst (v := 5) C.1 C.2.1 dL_law_1284 (by decide) ?_
  refine lv_iadd C.1 C.2.1 dL_law_1285 ?_
  refine va_sld C.1 C.2.1 hX0 hbl hbA hw.2.2.2.1 (hin 5 (by decide)) dL_law_1286 ?_
  refine lv_if_eq (tgt := 1294) C.1 C.2.1 dL_law_1287 (by decide) (fun hz => ?_) (fun hz => ?_)
  ·
    refine lv_iconst (v := 0) C.1 C.2.1 dL_law_1294 (by decide) ?_
    obtain ⟨r, M1, M2, e1, e2, hI⟩ := hst (xs (x3 + 1).toNatClampNeg) (xs (x3 + 2).toNatClampNeg) (xs (x3 + 3).toNatClampNeg) (xs (x3 + 4).toNatClampNeg) (0 : Int32) (by decide) M hM
    refine ea_runi2 hw (ea_runV (n := 5) C hw (hX 0 10 rfl) (by decide) (by decide) rfl (As := [.int (xs (x3 + 1).toNatClampNeg), .int (xs (x3 + 2).toNatClampNeg), .int (xs (x3 + 3).toNatClampNeg), .int (xs (x3 + 4).toNatClampNeg), .int (0 : Int32)]) (rest := []) (mX10_vat (l := l) (E := E) (ids := ids) hX e1) wc_X10_vat wi_RX10 wlL_113 wvL_X10_vat wzL_X10_vat (by decide +kernel) (by decide) rfl hl.1 rfl (Nat.le_of_ble_eq_true rfl) dL_law_1295 hcs) (fun H locs hw => ?_)
    refine lv_aload_n C.1 C.2.1 dL_law_1298 rfl (lv_at hl 2 rfl) ?_
    refine lv_aload_n C.1 C.2.1 dL_law_1299 rfl (lv_at hl 0 rfl) ?_
    refine lv_iload_n C.1 C.2.1 dL_law_1300 rfl (lv_at hl 3 rfl) ?_
    refine lv_iconst (v := 1) C.1 C.2.1 dL_law_1301 (by decide) ?_
    refine lv_iadd C.1 C.2.1 dL_law_1302 ?_
    refine va_sld C.1 C.2.1 hX0 hbl hbA hw.2.2.2.1 (hin 1 (by decide)) dL_law_1303 ?_
    refine lv_aload_n C.1 C.2.1 dL_law_1304 rfl (lv_at hl 0 rfl) ?_
    refine lv_iload_n C.1 C.2.1 dL_law_1305 rfl (lv_at hl 3 rfl) ?_
    refine lv_iconst (v := 2) C.1 C.2.1 dL_law_1306 (by decide) ?_
    refine lv_iadd C.1 C.2.1 dL_law_1307 ?_
    refine va_sld C.1 C.2.1 hX0 hbl hbA hw.2.2.2.1 (hin 2 (by decide)) dL_law_1308 ?_
    refine lv_aload_n C.1 C.2.1 dL_law_1309 rfl (lv_at hl 0 rfl) ?_
    refine lv_iload_n C.1 C.2.1 dL_law_1310 rfl (lv_at hl 3 rfl) ?_
    refine lv_iconst (v := 3) C.1 C.2.1 dL_law_1311 (by decide) ?_
    refine lv_iadd C.1 C.2.1 dL_law_1312 ?_
    refine va_sld C.1 C.2.1 hX0 hbl hbA hw.2.2.2.1 (hin 3 (by decide)) dL_law_1313 ?_
    refine lv_aload_n C.1 C.2.1 dL_law_1314 rfl (lv_at hl 0 rfl) ?_
    refine lv_iload_n C.1 C.2.1 dL_law_1315 rfl (lv_at hl 3 rfl) ?_
    refine lv_iconst (v := 4) C.1 C.2.1 dL_law_1316 (by decide) ?_
    refine lv_iadd C.1 C.2.1 dL_law_1317 ?_
    refine va_sld C.1 C.2.1 hX0 hbl hbA hw.2.2.2.1 (hin 4 (by decide)) dL_law_1318 ?_
    refine lv_aload_n C.1 C.2.1 dL_law_1319 rfl (lv_at hl 0 rfl) ?_
    refine lv_iload_n C.1 C.2.1 dL_law_1320 rfl (lv_at hl 3 rfl) ?_
    refine lv_iconst (v := 5) C.1 C.2.1 dL_law_1321 (by decide) ?_
    refine lv_iadd C.1 C.2.1 dL_law_1322 ?_
    refine va_sld C.1 C.2.1 hX0 hbl hbA hw.2.2.2.1 (hin 5 (by decide)) dL_law_1323 ?_
    refine lv_if_eq (tgt := 1331) C.1 C.2.1 dL_law_1324 (by decide) (fun _ => ?_) (fun q => absurd hz q)
    refine lv_iconst (v := 0) C.1 C.2.1 dL_law_1331 (by decide) ?_
    refine ea_runi2 hw (ea_runV (n := 5) C hw (hY 100 11 rfl) (by decide) (by decide) rfl (As := [.int (xs (x3 + 1).toNatClampNeg), .int (xs (x3 + 2).toNatClampNeg), .int (xs (x3 + 3).toNatClampNeg), .int (xs (x3 + 4).toNatClampNeg), .int (0 : Int32)]) (rest := [.int r]) (mX11_vat (l := l) (E := E) (ids := ids) hY e2) wc_X11_vat wi_RX11 wlL_116 wvL_X11_vat wzL_X11_vat (by decide +kernel) (by decide) rfl hl.1 rfl (Nat.le_of_ble_eq_true rfl) dL_law_1332 hcs) (fun H locs hw => ?_)
    exact lv_icmp_eq (tgt := 1684) C.1 C.2.1 dL_law_1335 (by decide) (fun _ => kk _ _ _ _ hI hw hl) (fun q => absurd rfl q)
  ·
    refine lv_iconst (v := 1) C.1 C.2.1 dL_law_1290 (by decide) ?_
    refine lv_goto (tgt := 1295) C.1 C.2.1 dL_law_1291 (by decide) ?_
    obtain ⟨r, M1, M2, e1, e2, hI⟩ := hst (xs (x3 + 1).toNatClampNeg) (xs (x3 + 2).toNatClampNeg) (xs (x3 + 3).toNatClampNeg) (xs (x3 + 4).toNatClampNeg) (1 : Int32) (by decide) M hM
    refine ea_runi2 hw (ea_runV (n := 5) C hw (hX 0 10 rfl) (by decide) (by decide) rfl (As := [.int (xs (x3 + 1).toNatClampNeg), .int (xs (x3 + 2).toNatClampNeg), .int (xs (x3 + 3).toNatClampNeg), .int (xs (x3 + 4).toNatClampNeg), .int (1 : Int32)]) (rest := []) (mX10_vat (l := l) (E := E) (ids := ids) hX e1) wc_X10_vat wi_RX10 wlL_113 wvL_X10_vat wzL_X10_vat (by decide +kernel) (by decide) rfl hl.1 rfl (Nat.le_of_ble_eq_true rfl) dL_law_1295 hcs) (fun H locs hw => ?_)
    refine lv_aload_n C.1 C.2.1 dL_law_1298 rfl (lv_at hl 2 rfl) ?_
    refine lv_aload_n C.1 C.2.1 dL_law_1299 rfl (lv_at hl 0 rfl) ?_
    refine lv_iload_n C.1 C.2.1 dL_law_1300 rfl (lv_at hl 3 rfl) ?_
    refine lv_iconst (v := 1) C.1 C.2.1 dL_law_1301 (by decide) ?_
    refine lv_iadd C.1 C.2.1 dL_law_1302 ?_
    refine va_sld C.1 C.2.1 hX0 hbl hbA hw.2.2.2.1 (hin 1 (by decide)) dL_law_1303 ?_
    refine lv_aload_n C.1 C.2.1 dL_law_1304 rfl (lv_at hl 0 rfl) ?_
    refine lv_iload_n C.1 C.2.1 dL_law_1305 rfl (lv_at hl 3 rfl) ?_
    refine lv_iconst (v := 2) C.1 C.2.1 dL_law_1306 (by decide) ?_
    refine lv_iadd C.1 C.2.1 dL_law_1307 ?_
    refine va_sld C.1 C.2.1 hX0 hbl hbA hw.2.2.2.1 (hin 2 (by decide)) dL_law_1308 ?_
    refine lv_aload_n C.1 C.2.1 dL_law_1309 rfl (lv_at hl 0 rfl) ?_
    refine lv_iload_n C.1 C.2.1 dL_law_1310 rfl (lv_at hl 3 rfl) ?_
    refine lv_iconst (v := 3) C.1 C.2.1 dL_law_1311 (by decide) ?_
    refine lv_iadd C.1 C.2.1 dL_law_1312 ?_
    refine va_sld C.1 C.2.1 hX0 hbl hbA hw.2.2.2.1 (hin 3 (by decide)) dL_law_1313 ?_
    refine lv_aload_n C.1 C.2.1 dL_law_1314 rfl (lv_at hl 0 rfl) ?_
    refine lv_iload_n C.1 C.2.1 dL_law_1315 rfl (lv_at hl 3 rfl) ?_
    refine lv_iconst (v := 4) C.1 C.2.1 dL_law_1316 (by decide) ?_
    refine lv_iadd C.1 C.2.1 dL_law_1317 ?_
    refine va_sld C.1 C.2.1 hX0 hbl hbA hw.2.2.2.1 (hin 4 (by decide)) dL_law_1318 ?_
    refine lv_aload_n C.1 C.2.1 dL_law_1319 rfl (lv_at hl 0 rfl) ?_
    refine lv_iload_n C.1 C.2.1 dL_law_1320 rfl (lv_at hl 3 rfl) ?_
    refine lv_iconst (v := 5) C.1 C.2.1 dL_law_1321 (by decide) ?_
    refine lv_iadd C.1 C.2.1 dL_law_1322 ?_
    refine va_sld C.1 C.2.1 hX0 hbl hbA hw.2.2.2.1 (hin 5 (by decide)) dL_law_1323 ?_
    refine lv_if_eq (tgt := 1331) C.1 C.2.1 dL_law_1324 (by decide) (fun q => absurd q hz) (fun _ => ?_)
    refine lv_iconst (v := 1) C.1 C.2.1 dL_law_1327 (by decide) ?_
    refine lv_goto (tgt := 1332) C.1 C.2.1 dL_law_1328 (by decide) ?_
    refine ea_runi2 hw (ea_runV (n := 5) C hw (hY 100 11 rfl) (by decide) (by decide) rfl (As := [.int (xs (x3 + 1).toNatClampNeg), .int (xs (x3 + 2).toNatClampNeg), .int (xs (x3 + 3).toNatClampNeg), .int (xs (x3 + 4).toNatClampNeg), .int (1 : Int32)]) (rest := [.int r]) (mX11_vat (l := l) (E := E) (ids := ids) hY e2) wc_X11_vat wi_RX11 wlL_116 wvL_X11_vat wzL_X11_vat (by decide +kernel) (by decide) rfl hl.1 rfl (Nat.le_of_ble_eq_true rfl) dL_law_1332 hcs) (fun H locs hw => ?_)
    exact lv_icmp_eq (tgt := 1684) C.1 C.2.1 dL_law_1335 (by decide) (fun _ => kk _ _ _ _ hI hw hl) (fun q => absurd rfl q)
set_option maxHeartbeats 4000000 in
set_option maxRecDepth 20000 in
theorem law_24 (C : ea_C p s m args meth c code 4 ret RL) (hX : ea_X ids) (hY : ea_Y ids) (hX0 : va_X b L xs s s.heap) (hbl : b < s.heap.size) (hbA : ¬ ea_Ad E ids b) (hcs : cells ≤ room_1.cells ∧ slots ≤ room_1.slots) (hin : ∀ k : Int32, (1 ≤ k ∧ k ≤ 6) → vp_in (x3 + k) L) (hw : ea_w E ids M s H locs) (hl : lv_has ls 4 [(0, .ref b), (1, .ref (E.1 0)), (2, .ref (E.1 100)), (3, .int x3)]) (hst : ∀ (a0 : Int32) (a1 : Int32), ea_st Inv (fX10_vats a0 a1) (fX11_vats a0 a1)) (hM : Inv M)
    (kk : ∀ (M : eM) (H : Heap) (locs : List Loc) (ls : Array Slot), Inv M → ea_w E ids M s H locs → lv_has ls 4 [(0, .ref b), (1, .ref (E.1 0)), (2, .ref (E.1 100)), (3, .int x3)] → W p l e room_1 s m args below meth c H locs cells slots Q (F0 m 1684 ls [])) : W p l e room_1 s m args below meth c H locs cells slots Q (F0 m 1340 ls []) := by
  refine lv_aload_n C.1 C.2.1 dL_law_1340 rfl (lv_at hl 1 rfl) ?_
  refine lv_aload_n C.1 C.2.1 dL_law_1341 rfl (lv_at hl 0 rfl) ?_
  refine lv_iload_n C.1 C.2.1 dL_law_1342 rfl (lv_at hl 3 rfl) ?_
  refine lv_iconst (v := 1) C.1 C.2.1 dL_law_1343 (by decide) ?_
  refine lv_iadd C.1 C.2.1 dL_law_1344 ?_
  refine va_sld C.1 C.2.1 hX0 hbl hbA hw.2.2.2.1 (hin 1 (by decide)) dL_law_1345 ?_
  refine lv_aload_n C.1 C.2.1 dL_law_1346 rfl (lv_at hl 0 rfl) ?_
  refine lv_iload_n C.1 C.2.1 dL_law_1347 rfl (lv_at hl 3 rfl) ?_
  refine lv_iconst (v := 2) C.1 C.2.1 dL_law_1348 (by decide) ?_
  refine lv_iadd C.1 C.2.1 dL_law_1349 ?_
  refine va_sld C.1 C.2.1 hX0 hbl hbA hw.2.2.2.1 (hin 2 (by decide)) dL_law_1350 ?_
  obtain ⟨r, M1, M2, e1, e2, hI⟩ := hst (xs (x3 + 1).toNatClampNeg) (xs (x3 + 2).toNatClampNeg) M hM
  refine ea_runi2 hw (ea_runV (n := 2) C hw (hX 0 10 rfl) (by decide) (by decide) rfl (As := [.int (xs (x3 + 1).toNatClampNeg), .int (xs (x3 + 2).toNatClampNeg)]) (rest := []) (mX10_vats (l := l) (E := E) (ids := ids) hX e1) wc_X10_vats wi_RX10 wlL_117 wvL_X10_vats wzL_X10_vats (by decide +kernel) (by decide) rfl hl.1 rfl (Nat.le_of_ble_eq_true rfl) dL_law_1351 hcs) (fun H locs hw => ?_)
  refine lv_aload_n C.1 C.2.1 dL_law_1354 rfl (lv_at hl 2 rfl) ?_
  refine lv_aload_n C.1 C.2.1 dL_law_1355 rfl (lv_at hl 0 rfl) ?_
  refine lv_iload_n C.1 C.2.1 dL_law_1356 rfl (lv_at hl 3 rfl) ?_
  refine lv_iconst (v := 1) C.1 C.2.1 dL_law_1357 (by decide) ?_
  refine lv_iadd C.1 C.2.1 dL_law_1358 ?_
  refine va_sld C.1 C.2.1 hX0 hbl hbA hw.2.2.2.1 (hin 1 (by decide)) dL_law_1359 ?_
  refine lv_aload_n C.1 C.2.1 dL_law_1360 rfl (lv_at hl 0 rfl) ?_
  refine lv_iload_n C.1 C.2.1 dL_law_1361 rfl (lv_at hl 3 rfl) ?_
  refine lv_iconst (v := 2) C.1 C.2.1 dL_law_1362 (by decide) ?_
  refine lv_iadd C.1 C.2.1 dL_law_1363 ?_
  refine va_sld C.1 C.2.1 hX0 hbl hbA hw.2.2.2.1 (hin 2 (by decide)) dL_law_1364 ?_
  refine ea_runi2 hw (ea_runV (n := 2) C hw (hY 100 11 rfl) (by decide) (by decide) rfl (As := [.int (xs (x3 + 1).toNatClampNeg), .int (xs (x3 + 2).toNatClampNeg)]) (rest := [.int r]) (mX11_vats (l := l) (E := E) (ids := ids) hY e2) wc_X11_vats wi_RX11 wlL_120 wvL_X11_vats wzL_X11_vats (by decide +kernel) (by decide) rfl hl.1 rfl (Nat.le_of_ble_eq_true rfl) dL_law_1365 hcs) (fun H locs hw => ?_)
  exact lv_icmp_eq (tgt := 1684) C.1 C.2.1 dL_law_1368 (by decide) (fun _ => kk _ _ _ _ hI hw hl) (fun q => absurd rfl q)
set_option maxHeartbeats 4000000 in
set_option maxRecDepth 20000 in
theorem law_25 (C : ea_C p s m args meth c code 4 ret RL) (hX : ea_X ids) (hY : ea_Y ids) (hX0 : va_X b L xs s s.heap) (hbl : b < s.heap.size) (hbA : ¬ ea_Ad E ids b) (hcs : cells ≤ room_1.cells ∧ slots ≤ room_1.slots) (hin : ∀ k : Int32, (1 ≤ k ∧ k ≤ 6) → vp_in (x3 + k) L) (hw : ea_w E ids M s H locs) (hl : lv_has ls 4 [(0, .ref b), (1, .ref (E.1 0)), (2, .ref (E.1 100)), (3, .int x3)]) (hst : ∀ (a0 : Int32) (a1 : Int32), ea_st Inv (fX10_next a0 a1) (fX11_next a0 a1)) (hM : Inv M)
    (kk : ∀ (M : eM) (H : Heap) (locs : List Loc) (ls : Array Slot), Inv M → ea_w E ids M s H locs → lv_has ls 4 [(0, .ref b), (1, .ref (E.1 0)), (2, .ref (E.1 100)), (3, .int x3)] → W p l e room_1 s m args below meth c H locs cells slots Q (F0 m 1684 ls [])) : W p l e room_1 s m args below meth c H locs cells slots Q (F0 m 1373 ls []) := by
  refine lv_aload_n C.1 C.2.1 dL_law_1373 rfl (lv_at hl 1 rfl) ?_
  refine lv_aload_n C.1 C.2.1 dL_law_1374 rfl (lv_at hl 0 rfl) ?_
  refine lv_iload_n C.1 C.2.1 dL_law_1375 rfl (lv_at hl 3 rfl) ?_
  refine lv_iconst (v := 1) C.1 C.2.1 dL_law_1376 (by decide) ?_
  refine lv_iadd C.1 C.2.1 dL_law_1377 ?_
  refine va_sld C.1 C.2.1 hX0 hbl hbA hw.2.2.2.1 (hin 1 (by decide)) dL_law_1378 ?_
  refine lv_aload_n C.1 C.2.1 dL_law_1379 rfl (lv_at hl 0 rfl) ?_
  refine lv_iload_n C.1 C.2.1 dL_law_1380 rfl (lv_at hl 3 rfl) ?_
  refine lv_iconst (v := 2) C.1 C.2.1 dL_law_1381 (by decide) ?_
  refine lv_iadd C.1 C.2.1 dL_law_1382 ?_
  refine va_sld C.1 C.2.1 hX0 hbl hbA hw.2.2.2.1 (hin 2 (by decide)) dL_law_1383 ?_
  obtain ⟨r, M1, M2, e1, e2, hI⟩ := hst (xs (x3 + 1).toNatClampNeg) (xs (x3 + 2).toNatClampNeg) M hM
  refine ea_runi2 hw (ea_runV (n := 2) C hw (hX 0 10 rfl) (by decide) (by decide) rfl (As := [.int (xs (x3 + 1).toNatClampNeg), .int (xs (x3 + 2).toNatClampNeg)]) (rest := []) (mX10_next (l := l) (E := E) (ids := ids) hX e1) wc_X10_next wi_RX10 wlL_121 wvL_X10_next wzL_X10_next (by decide +kernel) (by decide) rfl hl.1 rfl (Nat.le_of_ble_eq_true rfl) dL_law_1384 hcs) (fun H locs hw => ?_)
  refine lv_aload_n C.1 C.2.1 dL_law_1387 rfl (lv_at hl 2 rfl) ?_
  refine lv_aload_n C.1 C.2.1 dL_law_1388 rfl (lv_at hl 0 rfl) ?_
  refine lv_iload_n C.1 C.2.1 dL_law_1389 rfl (lv_at hl 3 rfl) ?_
  refine lv_iconst (v := 1) C.1 C.2.1 dL_law_1390 (by decide) ?_
  refine lv_iadd C.1 C.2.1 dL_law_1391 ?_
  refine va_sld C.1 C.2.1 hX0 hbl hbA hw.2.2.2.1 (hin 1 (by decide)) dL_law_1392 ?_
  refine lv_aload_n C.1 C.2.1 dL_law_1393 rfl (lv_at hl 0 rfl) ?_
  refine lv_iload_n C.1 C.2.1 dL_law_1394 rfl (lv_at hl 3 rfl) ?_
  refine lv_iconst (v := 2) C.1 C.2.1 dL_law_1395 (by decide) ?_
  refine lv_iadd C.1 C.2.1 dL_law_1396 ?_
  refine va_sld C.1 C.2.1 hX0 hbl hbA hw.2.2.2.1 (hin 2 (by decide)) dL_law_1397 ?_
  refine ea_runi2 hw (ea_runV (n := 2) C hw (hY 100 11 rfl) (by decide) (by decide) rfl (As := [.int (xs (x3 + 1).toNatClampNeg), .int (xs (x3 + 2).toNatClampNeg)]) (rest := [.int r]) (mX11_next (l := l) (E := E) (ids := ids) hY e2) wc_X11_next wi_RX11 wlL_124 wvL_X11_next wzL_X11_next (by decide +kernel) (by decide) rfl hl.1 rfl (Nat.le_of_ble_eq_true rfl) dL_law_1398 hcs) (fun H locs hw => ?_)
  exact lv_icmp_eq (tgt := 1684) C.1 C.2.1 dL_law_1401 (by decide) (fun _ => kk _ _ _ _ hI hw hl) (fun q => absurd rfl q)
set_option maxHeartbeats 4000000 in
set_option maxRecDepth 20000 in
theorem law_26 (C : ea_C p s m args meth c code 4 ret RL) (hX : ea_X ids) (hY : ea_Y ids) (hX0 : va_X b L xs s s.heap) (hbl : b < s.heap.size) (hbA : ¬ ea_Ad E ids b) (hcs : cells ≤ room_1.cells ∧ slots ≤ room_1.slots) (hin : ∀ k : Int32, (1 ≤ k ∧ k ≤ 6) → vp_in (x3 + k) L) (hw : ea_w E ids M s H locs) (hl : lv_has ls 4 [(0, .ref b), (1, .ref (E.1 0)), (2, .ref (E.1 100)), (3, .int x3)]) (hst : ∀ (a0 : Int32) (a1 : Int32) (a2 : Int32) (a3 : Int32), ea_st Inv (fX10_beside a0 a1 a2 a3) (fX11_beside a0 a1 a2 a3)) (hM : Inv M)
    (kk : ∀ (M : eM) (H : Heap) (locs : List Loc) (ls : Array Slot), Inv M → ea_w E ids M s H locs → lv_has ls 4 [(0, .ref b), (1, .ref (E.1 0)), (2, .ref (E.1 100)), (3, .int x3)] → W p l e room_1 s m args below meth c H locs cells slots Q (F0 m 1684 ls [])) : W p l e room_1 s m args below meth c H locs cells slots Q (F0 m 1406 ls []) := by
  refine lv_aload_n C.1 C.2.1 dL_law_1406 rfl (lv_at hl 1 rfl) ?_
  refine lv_aload_n C.1 C.2.1 dL_law_1407 rfl (lv_at hl 0 rfl) ?_
  refine lv_iload_n C.1 C.2.1 dL_law_1408 rfl (lv_at hl 3 rfl) ?_
  refine lv_iconst (v := 1) C.1 C.2.1 dL_law_1409 (by decide) ?_
  refine lv_iadd C.1 C.2.1 dL_law_1410 ?_
  refine va_sld C.1 C.2.1 hX0 hbl hbA hw.2.2.2.1 (hin 1 (by decide)) dL_law_1411 ?_
  refine lv_aload_n C.1 C.2.1 dL_law_1412 rfl (lv_at hl 0 rfl) ?_
  refine lv_iload_n C.1 C.2.1 dL_law_1413 rfl (lv_at hl 3 rfl) ?_
  refine lv_iconst (v := 2) C.1 C.2.1 dL_law_1414 (by decide) ?_
  refine lv_iadd C.1 C.2.1 dL_law_1415 ?_
  refine va_sld C.1 C.2.1 hX0 hbl hbA hw.2.2.2.1 (hin 2 (by decide)) dL_law_1416 ?_
  refine lv_aload_n C.1 C.2.1 dL_law_1417 rfl (lv_at hl 0 rfl) ?_
  refine lv_iload_n C.1 C.2.1 dL_law_1418 rfl (lv_at hl 3 rfl) ?_
  refine lv_iconst (v := 3) C.1 C.2.1 dL_law_1419 (by decide) ?_
  refine lv_iadd C.1 C.2.1 dL_law_1420 ?_
  refine va_sld C.1 C.2.1 hX0 hbl hbA hw.2.2.2.1 (hin 3 (by decide)) dL_law_1421 ?_
  refine lv_aload_n C.1 C.2.1 dL_law_1422 rfl (lv_at hl 0 rfl) ?_
  refine lv_iload_n C.1 C.2.1 dL_law_1423 rfl (lv_at hl 3 rfl) ?_
  refine lv_iconst (v := 4) C.1 C.2.1 dL_law_1424 (by decide) ?_
  refine lv_iadd C.1 C.2.1 dL_law_1425 ?_
  refine va_sld C.1 C.2.1 hX0 hbl hbA hw.2.2.2.1 (hin 4 (by decide)) dL_law_1426 ?_
  obtain ⟨r, M1, M2, e1, e2, hI⟩ := hst (xs (x3 + 1).toNatClampNeg) (xs (x3 + 2).toNatClampNeg) (xs (x3 + 3).toNatClampNeg) (xs (x3 + 4).toNatClampNeg) M hM
  refine ea_runi2 hw (ea_runV (n := 4) C hw (hX 0 10 rfl) (by decide) (by decide) rfl (As := [.int (xs (x3 + 1).toNatClampNeg), .int (xs (x3 + 2).toNatClampNeg), .int (xs (x3 + 3).toNatClampNeg), .int (xs (x3 + 4).toNatClampNeg)]) (rest := []) (mX10_beside (l := l) (E := E) (ids := ids) hX e1) wc_X10_beside wi_RX10 wlL_125 wvL_X10_beside wzL_X10_beside (by decide +kernel) (by decide) rfl hl.1 rfl (Nat.le_of_ble_eq_true rfl) dL_law_1427 hcs) (fun H locs hw => ?_)
  refine lv_aload_n C.1 C.2.1 dL_law_1430 rfl (lv_at hl 2 rfl) ?_
  refine lv_aload_n C.1 C.2.1 dL_law_1431 rfl (lv_at hl 0 rfl) ?_
  refine lv_iload_n C.1 C.2.1 dL_law_1432 rfl (lv_at hl 3 rfl) ?_
  refine lv_iconst (v := 1) C.1 C.2.1 dL_law_1433 (by decide) ?_
  refine lv_iadd C.1 C.2.1 dL_law_1434 ?_
  refine va_sld C.1 C.2.1 hX0 hbl hbA hw.2.2.2.1 (hin 1 (by decide)) dL_law_1435 ?_
  refine lv_aload_n C.1 C.2.1 dL_law_1436 rfl (lv_at hl 0 rfl) ?_
  refine lv_iload_n C.1 C.2.1 dL_law_1437 rfl (lv_at hl 3 rfl) ?_
  refine lv_iconst (v := 2) C.1 C.2.1 dL_law_1438 (by decide) ?_
  refine lv_iadd C.1 C.2.1 dL_law_1439 ?_
  refine va_sld C.1 C.2.1 hX0 hbl hbA hw.2.2.2.1 (hin 2 (by decide)) dL_law_1440 ?_
  refine lv_aload_n C.1 C.2.1 dL_law_1441 rfl (lv_at hl 0 rfl) ?_
  refine lv_iload_n C.1 C.2.1 dL_law_1442 rfl (lv_at hl 3 rfl) ?_
  refine lv_iconst (v := 3) C.1 C.2.1 dL_law_1443 (by decide) ?_
  refine lv_iadd C.1 C.2.1 dL_law_1444 ?_
  refine va_sld C.1 C.2.1 hX0 hbl hbA hw.2.2.2.1 (hin 3 (by decide)) dL_law_1445 ?_
  refine lv_aload_n C.1 C.2.1 dL_law_1446 rfl (lv_at hl 0 rfl) ?_
  refine lv_iload_n C.1 C.2.1 dL_law_1447 rfl (lv_at hl 3 rfl) ?_
  refine lv_iconst (v := 4) C.1 C.2.1 dL_law_1448 (by decide) ?_
  refine lv_iadd C.1 C.2.1 dL_law_1449 ?_
  refine va_sld C.1 C.2.1 hX0 hbl hbA hw.2.2.2.1 (hin 4 (by decide)) dL_law_1450 ?_
  refine ea_runi2 hw (ea_runV (n := 4) C hw (hY 100 11 rfl) (by decide) (by decide) rfl (As := [.int (xs (x3 + 1).toNatClampNeg), .int (xs (x3 + 2).toNatClampNeg), .int (xs (x3 + 3).toNatClampNeg), .int (xs (x3 + 4).toNatClampNeg)]) (rest := [.int r]) (mX11_beside (l := l) (E := E) (ids := ids) hY e2) wc_X11_beside wi_RX11 wlL_128 wvL_X11_beside wzL_X11_beside (by decide +kernel) (by decide) rfl hl.1 rfl (Nat.le_of_ble_eq_true rfl) dL_law_1451 hcs) (fun H locs hw => ?_)
  exact lv_icmp_eq (tgt := 1684) C.1 C.2.1 dL_law_1454 (by decide) (fun _ => kk _ _ _ _ hI hw hl) (fun q => absurd rfl q)
set_option maxHeartbeats 4000000 in
set_option maxRecDepth 20000 in
theorem law_27 (C : ea_C p s m args meth c code 4 ret RL) (hX : ea_X ids) (hY : ea_Y ids) (hX0 : va_X b L xs s s.heap) (hbl : b < s.heap.size) (hbA : ¬ ea_Ad E ids b) (hcs : cells ≤ room_1.cells ∧ slots ≤ room_1.slots) (hin : ∀ k : Int32, (1 ≤ k ∧ k ≤ 6) → vp_in (x3 + k) L) (hw : ea_w E ids M s H locs) (hl : lv_has ls 4 [(0, .ref b), (1, .ref (E.1 0)), (2, .ref (E.1 100)), (3, .int x3)]) (hst : ∀ (a0 : Int32) (a1 : Int32) (a2 : Int32) (a3 : Int32) (a4 : Int32), ea_st Inv (fX10_thrown a0 a1 a2 a3 a4) (fX11_thrown a0 a1 a2 a3 a4)) (hM : Inv M)
    (kk : ∀ (M : eM) (H : Heap) (locs : List Loc) (ls : Array Slot), Inv M → ea_w E ids M s H locs → lv_has ls 4 [(0, .ref b), (1, .ref (E.1 0)), (2, .ref (E.1 100)), (3, .int x3)] → W p l e room_1 s m args below meth c H locs cells slots Q (F0 m 1684 ls [])) : W p l e room_1 s m args below meth c H locs cells slots Q (F0 m 1459 ls []) := by
  refine lv_aload_n C.1 C.2.1 dL_law_1459 rfl (lv_at hl 1 rfl) ?_
  refine lv_aload_n C.1 C.2.1 dL_law_1460 rfl (lv_at hl 0 rfl) ?_
  refine lv_iload_n C.1 C.2.1 dL_law_1461 rfl (lv_at hl 3 rfl) ?_
  refine lv_iconst (v := 1) C.1 C.2.1 dL_law_1462 (by decide) ?_
  refine lv_iadd C.1 C.2.1 dL_law_1463 ?_
  refine va_sld C.1 C.2.1 hX0 hbl hbA hw.2.2.2.1 (hin 1 (by decide)) dL_law_1464 ?_
  refine lv_aload_n C.1 C.2.1 dL_law_1465 rfl (lv_at hl 0 rfl) ?_
  refine lv_iload_n C.1 C.2.1 dL_law_1466 rfl (lv_at hl 3 rfl) ?_
  refine lv_iconst (v := 2) C.1 C.2.1 dL_law_1467 (by decide) ?_
  refine lv_iadd C.1 C.2.1 dL_law_1468 ?_
  refine va_sld C.1 C.2.1 hX0 hbl hbA hw.2.2.2.1 (hin 2 (by decide)) dL_law_1469 ?_
  refine lv_aload_n C.1 C.2.1 dL_law_1470 rfl (lv_at hl 0 rfl) ?_
  refine lv_iload_n C.1 C.2.1 dL_law_1471 rfl (lv_at hl 3 rfl) ?_
  refine lv_iconst (v := 3) C.1 C.2.1 dL_law_1472 (by decide) ?_
  refine lv_iadd C.1 C.2.1 dL_law_1473 ?_
  refine va_sld C.1 C.2.1 hX0 hbl hbA hw.2.2.2.1 (hin 3 (by decide)) dL_law_1474 ?_
  refine lv_aload_n C.1 C.2.1 dL_law_1475 rfl (lv_at hl 0 rfl) ?_
  refine lv_iload_n C.1 C.2.1 dL_law_1476 rfl (lv_at hl 3 rfl) ?_
  refine lv_iconst (v := 4) C.1 C.2.1 dL_law_1477 (by decide) ?_
  refine lv_iadd C.1 C.2.1 dL_law_1478 ?_
  refine va_sld C.1 C.2.1 hX0 hbl hbA hw.2.2.2.1 (hin 4 (by decide)) dL_law_1479 ?_
  refine lv_aload_n C.1 C.2.1 dL_law_1480 rfl (lv_at hl 0 rfl) ?_
  refine lv_iload_n C.1 C.2.1 dL_law_1481 rfl (lv_at hl 3 rfl) ?_
  refine lv_iconst (v := 5) C.1 C.2.1 dL_law_1482 (by decide) ?_
  refine lv_iadd C.1 C.2.1 dL_law_1483 ?_
  refine va_sld C.1 C.2.1 hX0 hbl hbA hw.2.2.2.1 (hin 5 (by decide)) dL_law_1484 ?_
  obtain ⟨r, M1, M2, e1, e2, hI⟩ := hst (xs (x3 + 1).toNatClampNeg) (xs (x3 + 2).toNatClampNeg) (xs (x3 + 3).toNatClampNeg) (xs (x3 + 4).toNatClampNeg) (xs (x3 + 5).toNatClampNeg) M hM
  refine ea_runi2 hw (ea_runV (n := 5) C hw (hX 0 10 rfl) (by decide) (by decide) rfl (As := [.int (xs (x3 + 1).toNatClampNeg), .int (xs (x3 + 2).toNatClampNeg), .int (xs (x3 + 3).toNatClampNeg), .int (xs (x3 + 4).toNatClampNeg), .int (xs (x3 + 5).toNatClampNeg)]) (rest := []) (mX10_thrown (l := l) (E := E) (ids := ids) hX e1) wc_X10_thrown wi_RX10 wlL_129 wvL_X10_thrown wzL_X10_thrown (by decide +kernel) (by decide) rfl hl.1 rfl (Nat.le_of_ble_eq_true rfl) dL_law_1485 hcs) (fun H locs hw => ?_)
  refine lv_aload_n C.1 C.2.1 dL_law_1488 rfl (lv_at hl 2 rfl) ?_
  refine lv_aload_n C.1 C.2.1 dL_law_1489 rfl (lv_at hl 0 rfl) ?_
  refine lv_iload_n C.1 C.2.1 dL_law_1490 rfl (lv_at hl 3 rfl) ?_
  refine lv_iconst (v := 1) C.1 C.2.1 dL_law_1491 (by decide) ?_
  refine lv_iadd C.1 C.2.1 dL_law_1492 ?_
  refine va_sld C.1 C.2.1 hX0 hbl hbA hw.2.2.2.1 (hin 1 (by decide)) dL_law_1493 ?_
  refine lv_aload_n C.1 C.2.1 dL_law_1494 rfl (lv_at hl 0 rfl) ?_
  refine lv_iload_n C.1 C.2.1 dL_law_1495 rfl (lv_at hl 3 rfl) ?_
  refine lv_iconst (v := 2) C.1 C.2.1 dL_law_1496 (by decide) ?_
  refine lv_iadd C.1 C.2.1 dL_law_1497 ?_
  refine va_sld C.1 C.2.1 hX0 hbl hbA hw.2.2.2.1 (hin 2 (by decide)) dL_law_1498 ?_
  refine lv_aload_n C.1 C.2.1 dL_law_1499 rfl (lv_at hl 0 rfl) ?_
  refine lv_iload_n C.1 C.2.1 dL_law_1500 rfl (lv_at hl 3 rfl) ?_
  refine lv_iconst (v := 3) C.1 C.2.1 dL_law_1501 (by decide) ?_
  refine lv_iadd C.1 C.2.1 dL_law_1502 ?_
  refine va_sld C.1 C.2.1 hX0 hbl hbA hw.2.2.2.1 (hin 3 (by decide)) dL_law_1503 ?_
  refine lv_aload_n C.1 C.2.1 dL_law_1504 rfl (lv_at hl 0 rfl) ?_
  refine lv_iload_n C.1 C.2.1 dL_law_1505 rfl (lv_at hl 3 rfl) ?_
  refine lv_iconst (v := 4) C.1 C.2.1 dL_law_1506 (by decide) ?_
  refine lv_iadd C.1 C.2.1 dL_law_1507 ?_
  refine va_sld C.1 C.2.1 hX0 hbl hbA hw.2.2.2.1 (hin 4 (by decide)) dL_law_1508 ?_
  refine lv_aload_n C.1 C.2.1 dL_law_1509 rfl (lv_at hl 0 rfl) ?_
  refine lv_iload_n C.1 C.2.1 dL_law_1510 rfl (lv_at hl 3 rfl) ?_
  refine lv_iconst (v := 5) C.1 C.2.1 dL_law_1511 (by decide) ?_
  refine lv_iadd C.1 C.2.1 dL_law_1512 ?_
  refine va_sld C.1 C.2.1 hX0 hbl hbA hw.2.2.2.1 (hin 5 (by decide)) dL_law_1513 ?_
  refine ea_runi2 hw (ea_runV (n := 5) C hw (hY 100 11 rfl) (by decide) (by decide) rfl (As := [.int (xs (x3 + 1).toNatClampNeg), .int (xs (x3 + 2).toNatClampNeg), .int (xs (x3 + 3).toNatClampNeg), .int (xs (x3 + 4).toNatClampNeg), .int (xs (x3 + 5).toNatClampNeg)]) (rest := [.int r]) (mX11_thrown (l := l) (E := E) (ids := ids) hY e2) wc_X11_thrown wi_RX11 wlL_132 wvL_X11_thrown wzL_X11_thrown (by decide +kernel) (by decide) rfl hl.1 rfl (Nat.le_of_ble_eq_true rfl) dL_law_1514 hcs) (fun H locs hw => ?_)
  exact lv_icmp_eq (tgt := 1684) C.1 C.2.1 dL_law_1517 (by decide) (fun _ => kk _ _ _ _ hI hw hl) (fun q => absurd rfl q)
set_option maxHeartbeats 4000000 in
set_option maxRecDepth 20000 in
theorem law_28 (C : ea_C p s m args meth c code 4 ret RL) (hX : ea_X ids) (hY : ea_Y ids) (hX0 : va_X b L xs s s.heap) (hbl : b < s.heap.size) (hbA : ¬ ea_Ad E ids b) (hcs : cells ≤ room_1.cells ∧ slots ≤ room_1.slots) (hin : ∀ k : Int32, (1 ≤ k ∧ k ≤ 6) → vp_in (x3 + k) L) (hw : ea_w E ids M s H locs) (hl : lv_has ls 4 [(0, .ref b), (1, .ref (E.1 0)), (2, .ref (E.1 100)), (3, .int x3)]) (hst : ∀ (a0 : Int32) (a1 : Int32) (a2 : Int32) (a3 : Int32), ea_st Inv (fX10_cannot a0 a1 a2 a3) (fX11_cannot a0 a1 a2 a3)) (hM : Inv M)
    (kk : ∀ (M : eM) (H : Heap) (locs : List Loc) (ls : Array Slot), Inv M → ea_w E ids M s H locs → lv_has ls 4 [(0, .ref b), (1, .ref (E.1 0)), (2, .ref (E.1 100)), (3, .int x3)] → W p l e room_1 s m args below meth c H locs cells slots Q (F0 m 1684 ls [])) : W p l e room_1 s m args below meth c H locs cells slots Q (F0 m 1522 ls []) := by
  refine lv_aload_n C.1 C.2.1 dL_law_1522 rfl (lv_at hl 1 rfl) ?_
  refine lv_aload_n C.1 C.2.1 dL_law_1523 rfl (lv_at hl 0 rfl) ?_
  refine lv_iload_n C.1 C.2.1 dL_law_1524 rfl (lv_at hl 3 rfl) ?_
  refine lv_iconst (v := 1) C.1 C.2.1 dL_law_1525 (by decide) ?_
  refine lv_iadd C.1 C.2.1 dL_law_1526 ?_
  refine va_sld C.1 C.2.1 hX0 hbl hbA hw.2.2.2.1 (hin 1 (by decide)) dL_law_1527 ?_
  refine lv_aload_n C.1 C.2.1 dL_law_1528 rfl (lv_at hl 0 rfl) ?_
  refine lv_iload_n C.1 C.2.1 dL_law_1529 rfl (lv_at hl 3 rfl) ?_
  refine lv_iconst (v := 2) C.1 C.2.1 dL_law_1530 (by decide) ?_
  refine lv_iadd C.1 C.2.1 dL_law_1531 ?_
  refine va_sld C.1 C.2.1 hX0 hbl hbA hw.2.2.2.1 (hin 2 (by decide)) dL_law_1532 ?_
  refine lv_aload_n C.1 C.2.1 dL_law_1533 rfl (lv_at hl 0 rfl) ?_
  refine lv_iload_n C.1 C.2.1 dL_law_1534 rfl (lv_at hl 3 rfl) ?_
  refine lv_iconst (v := 3) C.1 C.2.1 dL_law_1535 (by decide) ?_
  refine lv_iadd C.1 C.2.1 dL_law_1536 ?_
  refine va_sld C.1 C.2.1 hX0 hbl hbA hw.2.2.2.1 (hin 3 (by decide)) dL_law_1537 ?_
  refine lv_aload_n C.1 C.2.1 dL_law_1538 rfl (lv_at hl 0 rfl) ?_
  refine lv_iload_n C.1 C.2.1 dL_law_1539 rfl (lv_at hl 3 rfl) ?_
  refine lv_iconst (v := 4) C.1 C.2.1 dL_law_1540 (by decide) ?_
  refine lv_iadd C.1 C.2.1 dL_law_1541 ?_
  refine va_sld C.1 C.2.1 hX0 hbl hbA hw.2.2.2.1 (hin 4 (by decide)) dL_law_1542 ?_
  obtain ⟨r, M1, M2, e1, e2, hI⟩ := hst (xs (x3 + 1).toNatClampNeg) (xs (x3 + 2).toNatClampNeg) (xs (x3 + 3).toNatClampNeg) (xs (x3 + 4).toNatClampNeg) M hM
  refine ea_runi2 hw (ea_runV (n := 4) C hw (hX 0 10 rfl) (by decide) (by decide) rfl (As := [.int (xs (x3 + 1).toNatClampNeg), .int (xs (x3 + 2).toNatClampNeg), .int (xs (x3 + 3).toNatClampNeg), .int (xs (x3 + 4).toNatClampNeg)]) (rest := []) (mX10_cannot (l := l) (E := E) (ids := ids) hX e1) wc_X10_cannot wi_RX10 wlL_133 wvL_X10_cannot wzL_X10_cannot (by decide +kernel) (by decide) rfl hl.1 rfl (Nat.le_of_ble_eq_true rfl) dL_law_1543 hcs) (fun H locs hw => ?_)
  refine lv_aload_n C.1 C.2.1 dL_law_1546 rfl (lv_at hl 2 rfl) ?_
  refine lv_aload_n C.1 C.2.1 dL_law_1547 rfl (lv_at hl 0 rfl) ?_
  refine lv_iload_n C.1 C.2.1 dL_law_1548 rfl (lv_at hl 3 rfl) ?_
  refine lv_iconst (v := 1) C.1 C.2.1 dL_law_1549 (by decide) ?_
  refine lv_iadd C.1 C.2.1 dL_law_1550 ?_
  refine va_sld C.1 C.2.1 hX0 hbl hbA hw.2.2.2.1 (hin 1 (by decide)) dL_law_1551 ?_
  refine lv_aload_n C.1 C.2.1 dL_law_1552 rfl (lv_at hl 0 rfl) ?_
  refine lv_iload_n C.1 C.2.1 dL_law_1553 rfl (lv_at hl 3 rfl) ?_
  refine lv_iconst (v := 2) C.1 C.2.1 dL_law_1554 (by decide) ?_
  refine lv_iadd C.1 C.2.1 dL_law_1555 ?_
  refine va_sld C.1 C.2.1 hX0 hbl hbA hw.2.2.2.1 (hin 2 (by decide)) dL_law_1556 ?_
  refine lv_aload_n C.1 C.2.1 dL_law_1557 rfl (lv_at hl 0 rfl) ?_
  refine lv_iload_n C.1 C.2.1 dL_law_1558 rfl (lv_at hl 3 rfl) ?_
  refine lv_iconst (v := 3) C.1 C.2.1 dL_law_1559 (by decide) ?_
  refine lv_iadd C.1 C.2.1 dL_law_1560 ?_
  refine va_sld C.1 C.2.1 hX0 hbl hbA hw.2.2.2.1 (hin 3 (by decide)) dL_law_1561 ?_
  refine lv_aload_n C.1 C.2.1 dL_law_1562 rfl (lv_at hl 0 rfl) ?_
  refine lv_iload_n C.1 C.2.1 dL_law_1563 rfl (lv_at hl 3 rfl) ?_
  refine lv_iconst (v := 4) C.1 C.2.1 dL_law_1564 (by decide) ?_
  refine lv_iadd C.1 C.2.1 dL_law_1565 ?_
  refine va_sld C.1 C.2.1 hX0 hbl hbA hw.2.2.2.1 (hin 4 (by decide)) dL_law_1566 ?_
  refine ea_runi2 hw (ea_runV (n := 4) C hw (hY 100 11 rfl) (by decide) (by decide) rfl (As := [.int (xs (x3 + 1).toNatClampNeg), .int (xs (x3 + 2).toNatClampNeg), .int (xs (x3 + 3).toNatClampNeg), .int (xs (x3 + 4).toNatClampNeg)]) (rest := [.int r]) (mX11_cannot (l := l) (E := E) (ids := ids) hY e2) wc_X11_cannot wi_RX11 wlL_136 wvL_X11_cannot wzL_X11_cannot (by decide +kernel) (by decide) rfl hl.1 rfl (Nat.le_of_ble_eq_true rfl) dL_law_1567 hcs) (fun H locs hw => ?_)
  exact lv_icmp_eq (tgt := 1684) C.1 C.2.1 dL_law_1570 (by decide) (fun _ => kk _ _ _ _ hI hw hl) (fun q => absurd rfl q)
set_option maxHeartbeats 4000000 in
set_option maxRecDepth 20000 in
theorem law_29 (C : ea_C p s m args meth c code 4 ret RL) (hX : ea_X ids) (hY : ea_Y ids) (hX0 : va_X b L xs s s.heap) (hbl : b < s.heap.size) (hbA : ¬ ea_Ad E ids b) (hcs : cells ≤ room_1.cells ∧ slots ≤ room_1.slots) (hin : ∀ k : Int32, (1 ≤ k ∧ k ≤ 6) → vp_in (x3 + k) L) (hw : ea_w E ids M s H locs) (hl : lv_has ls 4 [(0, .ref b), (1, .ref (E.1 0)), (2, .ref (E.1 100)), (3, .int x3)]) (hst : ∀ (a0 : Int32) (a1 : Int32) (a2 : Int32), ea_st Inv (fX10_bear a0 a1 a2) (fX11_bear a0 a1 a2)) (hM : Inv M)
    (kk : ∀ (M : eM) (H : Heap) (locs : List Loc) (ls : Array Slot), Inv M → ea_w E ids M s H locs → lv_has ls 4 [(0, .ref b), (1, .ref (E.1 0)), (2, .ref (E.1 100)), (3, .int x3)] → W p l e room_1 s m args below meth c H locs cells slots Q (F0 m 1684 ls [])) : W p l e room_1 s m args below meth c H locs cells slots Q (F0 m 1575 ls []) := by
  refine lv_aload_n C.1 C.2.1 dL_law_1575 rfl (lv_at hl 1 rfl) ?_
  refine lv_aload_n C.1 C.2.1 dL_law_1576 rfl (lv_at hl 0 rfl) ?_
  refine lv_iload_n C.1 C.2.1 dL_law_1577 rfl (lv_at hl 3 rfl) ?_
  refine lv_iconst (v := 1) C.1 C.2.1 dL_law_1578 (by decide) ?_
  refine lv_iadd C.1 C.2.1 dL_law_1579 ?_
  refine va_sld C.1 C.2.1 hX0 hbl hbA hw.2.2.2.1 (hin 1 (by decide)) dL_law_1580 ?_
  refine lv_aload_n C.1 C.2.1 dL_law_1581 rfl (lv_at hl 0 rfl) ?_
  refine lv_iload_n C.1 C.2.1 dL_law_1582 rfl (lv_at hl 3 rfl) ?_
  refine lv_iconst (v := 2) C.1 C.2.1 dL_law_1583 (by decide) ?_
  refine lv_iadd C.1 C.2.1 dL_law_1584 ?_
  refine va_sld C.1 C.2.1 hX0 hbl hbA hw.2.2.2.1 (hin 2 (by decide)) dL_law_1585 ?_
  refine lv_aload_n C.1 C.2.1 dL_law_1586 rfl (lv_at hl 0 rfl) ?_
  refine lv_iload_n C.1 C.2.1 dL_law_1587 rfl (lv_at hl 3 rfl) ?_
  refine lv_iconst (v := 3) C.1 C.2.1 dL_law_1588 (by decide) ?_
  refine lv_iadd C.1 C.2.1 dL_law_1589 ?_
  refine va_sld C.1 C.2.1 hX0 hbl hbA hw.2.2.2.1 (hin 3 (by decide)) dL_law_1590 ?_
  obtain ⟨r, M1, M2, e1, e2, hI⟩ := hst (xs (x3 + 1).toNatClampNeg) (xs (x3 + 2).toNatClampNeg) (xs (x3 + 3).toNatClampNeg) M hM
  refine ea_runi2 hw (ea_runV (n := 3) C hw (hX 0 10 rfl) (by decide) (by decide) rfl (As := [.int (xs (x3 + 1).toNatClampNeg), .int (xs (x3 + 2).toNatClampNeg), .int (xs (x3 + 3).toNatClampNeg)]) (rest := []) (mX10_bear (l := l) (E := E) (ids := ids) hX e1) wc_X10_bear wi_RX10 wlL_137 wvL_X10_bear wzL_X10_bear (by decide +kernel) (by decide) rfl hl.1 rfl (Nat.le_of_ble_eq_true rfl) dL_law_1591 hcs) (fun H locs hw => ?_)
  refine lv_aload_n C.1 C.2.1 dL_law_1594 rfl (lv_at hl 2 rfl) ?_
  refine lv_aload_n C.1 C.2.1 dL_law_1595 rfl (lv_at hl 0 rfl) ?_
  refine lv_iload_n C.1 C.2.1 dL_law_1596 rfl (lv_at hl 3 rfl) ?_
  refine lv_iconst (v := 1) C.1 C.2.1 dL_law_1597 (by decide) ?_
  refine lv_iadd C.1 C.2.1 dL_law_1598 ?_
  refine va_sld C.1 C.2.1 hX0 hbl hbA hw.2.2.2.1 (hin 1 (by decide)) dL_law_1599 ?_
  refine lv_aload_n C.1 C.2.1 dL_law_1600 rfl (lv_at hl 0 rfl) ?_
  refine lv_iload_n C.1 C.2.1 dL_law_1601 rfl (lv_at hl 3 rfl) ?_
  refine lv_iconst (v := 2) C.1 C.2.1 dL_law_1602 (by decide) ?_
  refine lv_iadd C.1 C.2.1 dL_law_1603 ?_
  refine va_sld C.1 C.2.1 hX0 hbl hbA hw.2.2.2.1 (hin 2 (by decide)) dL_law_1604 ?_
  refine lv_aload_n C.1 C.2.1 dL_law_1605 rfl (lv_at hl 0 rfl) ?_
  refine lv_iload_n C.1 C.2.1 dL_law_1606 rfl (lv_at hl 3 rfl) ?_
  refine lv_iconst (v := 3) C.1 C.2.1 dL_law_1607 (by decide) ?_
  refine lv_iadd C.1 C.2.1 dL_law_1608 ?_
  refine va_sld C.1 C.2.1 hX0 hbl hbA hw.2.2.2.1 (hin 3 (by decide)) dL_law_1609 ?_
  refine ea_runi2 hw (ea_runV (n := 3) C hw (hY 100 11 rfl) (by decide) (by decide) rfl (As := [.int (xs (x3 + 1).toNatClampNeg), .int (xs (x3 + 2).toNatClampNeg), .int (xs (x3 + 3).toNatClampNeg)]) (rest := [.int r]) (mX11_bear (l := l) (E := E) (ids := ids) hY e2) wc_X11_bear wi_RX11 wlL_140 wvL_X11_bear wzL_X11_bear (by decide +kernel) (by decide) rfl hl.1 rfl (Nat.le_of_ble_eq_true rfl) dL_law_1610 hcs) (fun H locs hw => ?_)
  exact lv_icmp_eq (tgt := 1684) C.1 C.2.1 dL_law_1613 (by decide) (fun _ => kk _ _ _ _ hI hw hl) (fun q => absurd rfl q)
set_option maxHeartbeats 4000000 in
set_option maxRecDepth 20000 in
theorem law_30 (C : ea_C p s m args meth c code 4 ret RL) (hX : ea_X ids) (hY : ea_Y ids) (hX0 : va_X b L xs s s.heap) (hbl : b < s.heap.size) (hbA : ¬ ea_Ad E ids b) (hcs : cells ≤ room_1.cells ∧ slots ≤ room_1.slots) (hin : ∀ k : Int32, (1 ≤ k ∧ k ≤ 6) → vp_in (x3 + k) L) (hw : ea_w E ids M s H locs) (hl : lv_has ls 4 [(0, .ref b), (1, .ref (E.1 0)), (2, .ref (E.1 100)), (3, .int x3)]) (hst : ∀ (a0 : Int32) (a1 : Int32) (a2 : Int32), ea_st Inv (fX10_world a0 a1 a2) (fX11_world a0 a1 a2)) (hM : Inv M)
    (kk : ∀ (M : eM) (H : Heap) (locs : List Loc) (ls : Array Slot), Inv M → ea_w E ids M s H locs → lv_has ls 4 [(0, .ref b), (1, .ref (E.1 0)), (2, .ref (E.1 100)), (3, .int x3)] → W p l e room_1 s m args below meth c H locs cells slots Q (F0 m 1684 ls [])) : W p l e room_1 s m args below meth c H locs cells slots Q (F0 m 1618 ls []) := by
  refine lv_aload_n C.1 C.2.1 dL_law_1618 rfl (lv_at hl 1 rfl) ?_
  refine lv_aload_n C.1 C.2.1 dL_law_1619 rfl (lv_at hl 0 rfl) ?_
  refine lv_iload_n C.1 C.2.1 dL_law_1620 rfl (lv_at hl 3 rfl) ?_
  refine lv_iconst (v := 1) C.1 C.2.1 dL_law_1621 (by decide) ?_
  refine lv_iadd C.1 C.2.1 dL_law_1622 ?_
  refine va_sld C.1 C.2.1 hX0 hbl hbA hw.2.2.2.1 (hin 1 (by decide)) dL_law_1623 ?_
  refine lv_aload_n C.1 C.2.1 dL_law_1624 rfl (lv_at hl 0 rfl) ?_
  refine lv_iload_n C.1 C.2.1 dL_law_1625 rfl (lv_at hl 3 rfl) ?_
  refine lv_iconst (v := 2) C.1 C.2.1 dL_law_1626 (by decide) ?_
  refine lv_iadd C.1 C.2.1 dL_law_1627 ?_
  refine va_sld C.1 C.2.1 hX0 hbl hbA hw.2.2.2.1 (hin 2 (by decide)) dL_law_1628 ?_
  refine lv_aload_n C.1 C.2.1 dL_law_1629 rfl (lv_at hl 0 rfl) ?_
  refine lv_iload_n C.1 C.2.1 dL_law_1630 rfl (lv_at hl 3 rfl) ?_
  refine lv_iconst (v := 3) C.1 C.2.1 dL_law_1631 (by decide) ?_
  refine lv_iadd C.1 C.2.1 dL_law_1632 ?_
  refine va_sld C.1 C.2.1 hX0 hbl hbA hw.2.2.2.1 (hin 3 (by decide)) dL_law_1633 ?_
  obtain ⟨r, M1, M2, e1, e2, hI⟩ := hst (xs (x3 + 1).toNatClampNeg) (xs (x3 + 2).toNatClampNeg) (xs (x3 + 3).toNatClampNeg) M hM
  refine ea_runi2 hw (ea_runV (n := 3) C hw (hX 0 10 rfl) (by decide) (by decide) rfl (As := [.int (xs (x3 + 1).toNatClampNeg), .int (xs (x3 + 2).toNatClampNeg), .int (xs (x3 + 3).toNatClampNeg)]) (rest := []) (mX10_world (l := l) (E := E) (ids := ids) hX e1) wc_X10_world wi_RX10 wlL_141 wvL_X10_world wzL_X10_world (by decide +kernel) (by decide) rfl hl.1 rfl (Nat.le_of_ble_eq_true rfl) dL_law_1634 hcs) (fun H locs hw => ?_)
  refine lv_aload_n C.1 C.2.1 dL_law_1637 rfl (lv_at hl 2 rfl) ?_
  refine lv_aload_n C.1 C.2.1 dL_law_1638 rfl (lv_at hl 0 rfl) ?_
  refine lv_iload_n C.1 C.2.1 dL_law_1639 rfl (lv_at hl 3 rfl) ?_
  refine lv_iconst (v := 1) C.1 C.2.1 dL_law_1640 (by decide) ?_
  refine lv_iadd C.1 C.2.1 dL_law_1641 ?_
  refine va_sld C.1 C.2.1 hX0 hbl hbA hw.2.2.2.1 (hin 1 (by decide)) dL_law_1642 ?_
  refine lv_aload_n C.1 C.2.1 dL_law_1643 rfl (lv_at hl 0 rfl) ?_
  refine lv_iload_n C.1 C.2.1 dL_law_1644 rfl (lv_at hl 3 rfl) ?_
  refine lv_iconst (v := 2) C.1 C.2.1 dL_law_1645 (by decide) ?_
  refine lv_iadd C.1 C.2.1 dL_law_1646 ?_
  refine va_sld C.1 C.2.1 hX0 hbl hbA hw.2.2.2.1 (hin 2 (by decide)) dL_law_1647 ?_
  refine lv_aload_n C.1 C.2.1 dL_law_1648 rfl (lv_at hl 0 rfl) ?_
  refine lv_iload_n C.1 C.2.1 dL_law_1649 rfl (lv_at hl 3 rfl) ?_
  refine lv_iconst (v := 3) C.1 C.2.1 dL_law_1650 (by decide) ?_
  refine lv_iadd C.1 C.2.1 dL_law_1651 ?_
  refine va_sld C.1 C.2.1 hX0 hbl hbA hw.2.2.2.1 (hin 3 (by decide)) dL_law_1652 ?_
  refine ea_runi2 hw (ea_runV (n := 3) C hw (hY 100 11 rfl) (by decide) (by decide) rfl (As := [.int (xs (x3 + 1).toNatClampNeg), .int (xs (x3 + 2).toNatClampNeg), .int (xs (x3 + 3).toNatClampNeg)]) (rest := [.int r]) (mX11_world (l := l) (E := E) (ids := ids) hY e2) wc_X11_world wi_RX11 wlL_144 wvL_X11_world wzL_X11_world (by decide +kernel) (by decide) rfl hl.1 rfl (Nat.le_of_ble_eq_true rfl) dL_law_1653 hcs) (fun H locs hw => ?_)
  exact lv_icmp_eq (tgt := 1684) C.1 C.2.1 dL_law_1656 (by decide) (fun _ => kk _ _ _ _ hI hw hl) (fun q => absurd rfl q)
set_option maxHeartbeats 4000000 in
set_option maxRecDepth 20000 in
theorem law_31 (C : ea_C p s m args meth c code 4 ret RL) (hX : ea_X ids) (hY : ea_Y ids) (hX0 : va_X b L xs s s.heap) (hbl : b < s.heap.size) (hbA : ¬ ea_Ad E ids b) (hcs : cells ≤ room_1.cells ∧ slots ≤ room_1.slots) (hin : ∀ k : Int32, (1 ≤ k ∧ k ≤ 6) → vp_in (x3 + k) L) (hw : ea_w E ids M s H locs) (hl : lv_has ls 4 [(0, .ref b), (1, .ref (E.1 0)), (2, .ref (E.1 100)), (3, .int x3)]) (hst : ∀ (a0 : Int32), ea_st Inv (fX10_count a0) (fX11_count a0)) (hM : Inv M)
    (kk : ∀ (M : eM) (H : Heap) (locs : List Loc) (ls : Array Slot), Inv M → ea_w E ids M s H locs → lv_has ls 4 [(0, .ref b), (1, .ref (E.1 0)), (2, .ref (E.1 100)), (3, .int x3)] → W p l e room_1 s m args below meth c H locs cells slots Q (F0 m 1684 ls [])) : W p l e room_1 s m args below meth c H locs cells slots Q (F0 m 1661 ls []) := by
  refine lv_aload_n C.1 C.2.1 dL_law_1661 rfl (lv_at hl 1 rfl) ?_
  refine lv_aload_n C.1 C.2.1 dL_law_1662 rfl (lv_at hl 0 rfl) ?_
  refine lv_iload_n C.1 C.2.1 dL_law_1663 rfl (lv_at hl 3 rfl) ?_
  refine lv_iconst (v := 1) C.1 C.2.1 dL_law_1664 (by decide) ?_
  refine lv_iadd C.1 C.2.1 dL_law_1665 ?_
  refine va_sld C.1 C.2.1 hX0 hbl hbA hw.2.2.2.1 (hin 1 (by decide)) dL_law_1666 ?_
  obtain ⟨r, M1, M2, e1, e2, hI⟩ := hst (xs (x3 + 1).toNatClampNeg) M hM
  refine ea_runi2 hw (ea_runV (n := 1) C hw (hX 0 10 rfl) (by decide) (by decide) rfl (As := [.int (xs (x3 + 1).toNatClampNeg)]) (rest := []) (mX10_count (l := l) (E := E) (ids := ids) hX e1) wc_X10_count wi_RX10 wlL_145 wvL_X10_count wzL_X10_count (by decide +kernel) (by decide) rfl hl.1 rfl (Nat.le_of_ble_eq_true rfl) dL_law_1667 hcs) (fun H locs hw => ?_)
  refine lv_aload_n C.1 C.2.1 dL_law_1670 rfl (lv_at hl 2 rfl) ?_
  refine lv_aload_n C.1 C.2.1 dL_law_1671 rfl (lv_at hl 0 rfl) ?_
  refine lv_iload_n C.1 C.2.1 dL_law_1672 rfl (lv_at hl 3 rfl) ?_
  refine lv_iconst (v := 1) C.1 C.2.1 dL_law_1673 (by decide) ?_
  refine lv_iadd C.1 C.2.1 dL_law_1674 ?_
  refine va_sld C.1 C.2.1 hX0 hbl hbA hw.2.2.2.1 (hin 1 (by decide)) dL_law_1675 ?_
  refine ea_runi2 hw (ea_runV (n := 1) C hw (hY 100 11 rfl) (by decide) (by decide) rfl (As := [.int (xs (x3 + 1).toNatClampNeg)]) (rest := [.int r]) (mX11_count (l := l) (E := E) (ids := ids) hY e2) wc_X11_count wi_RX11 wlL_148 wvL_X11_count wzL_X11_count (by decide +kernel) (by decide) rfl hl.1 rfl (Nat.le_of_ble_eq_true rfl) dL_law_1676 hcs) (fun H locs hw => ?_)
  exact lv_icmp_eq (tgt := 1684) C.1 C.2.1 dL_law_1679 (by decide) (fun _ => kk _ _ _ _ hI hw hl) (fun q => absurd rfl q)
end LAW
