theorem md_X11_years : zMd yX11_years cX11_years 2 1 (some .int) := ⟨zmw (zmt_2 _ (List.mem_of_getElem? (i := 195) rfl)) rfl, zmem 112 (by decide +kernel) rfl, by decide, by decide, by decide +kernel, by decide⟩
theorem ml_L_19 : Cond.methodLink RL 19 yX11_years ∈ zB := zmem 543 (by decide +kernel) rfl
theorem im_X11_years : Cond.instanceMethod yX11_years ∈ zB := zmem 544 (by decide +kernel) rfl
theorem se_X11_years : Cond.selects yX11_years.cls yX11_years yX11_years ∈ zB := zmem 545 (by decide +kernel) rfl
theorem md_X12_years : zMd yX12_years cX12_years 2 1 (some .int) := ⟨zmw (zmt_7 _ (List.mem_of_getElem? (i := 174) rfl)) rfl, zmem 127 (by decide +kernel) rfl, by decide, by decide, by decide +kernel, by decide⟩
theorem ml_L_23 : Cond.methodLink RL 23 yX12_years ∈ zB := zmem 1722 (by decide +kernel) rfl
theorem im_X12_years : Cond.instanceMethod yX12_years ∈ zB := zmem 1723 (by decide +kernel) rfl
theorem se_X12_years : Cond.selects yX12_years.cls yX12_years yX12_years ∈ zB := zmem 1724 (by decide +kernel) rfl
theorem md_X11_view : zMd yX11_view cX11_view 2 1 (some .boolean) := ⟨zmw (zmt_2 _ (List.mem_of_getElem? (i := 202) rfl)) rfl, zmem 112 (by decide +kernel) rfl, by decide, by decide, by decide +kernel, by decide⟩
theorem ml_L_24 : Cond.methodLink RL 24 yX11_view ∈ zB := zmem 550 (by decide +kernel) rfl
theorem im_X11_view : Cond.instanceMethod yX11_view ∈ zB := zmem 551 (by decide +kernel) rfl
theorem se_X11_view : Cond.selects yX11_view.cls yX11_view yX11_view ∈ zB := zmem 552 (by decide +kernel) rfl
theorem md_X12_view : zMd yX12_view cX12_view 2 1 (some .boolean) := ⟨zmw (zmt_7 _ (List.mem_of_getElem? (i := 184) rfl)) rfl, zmem 127 (by decide +kernel) rfl, by decide, by decide, by decide +kernel, by decide⟩
theorem ml_L_28 : Cond.methodLink RL 28 yX12_view ∈ zB := zmem 1732 (by decide +kernel) rfl
theorem im_X12_view : Cond.instanceMethod yX12_view ∈ zB := zmem 1733 (by decide +kernel) rfl
theorem se_X12_view : Cond.selects yX12_view.cls yX12_view yX12_view ∈ zB := zmem 1734 (by decide +kernel) rfl
theorem md_X11_meeting : zMd yX11_meeting cX11_meeting 11 7 (some .int) := ⟨zmw (zmt_2 _ (List.mem_of_getElem? (i := 206) rfl)) rfl, zmem 112 (by decide +kernel) rfl, by decide, by decide, by decide +kernel, by decide⟩
theorem ml_L_29 : Cond.methodLink RL 29 yX11_meeting ∈ zB := zmem 554 (by decide +kernel) rfl
theorem im_X11_meeting : Cond.instanceMethod yX11_meeting ∈ zB := zmem 555 (by decide +kernel) rfl
theorem se_X11_meeting : Cond.selects yX11_meeting.cls yX11_meeting yX11_meeting ∈ zB := zmem 556 (by decide +kernel) rfl
theorem md_X12_meeting : zMd yX12_meeting cX12_meeting 10 7 (some .int) := ⟨zmw (zmt_7 _ (List.mem_of_getElem? (i := 188) rfl)) rfl, zmem 127 (by decide +kernel) rfl, by decide, by decide, by decide +kernel, by decide⟩
theorem ml_L_33 : Cond.methodLink RL 33 yX12_meeting ∈ zB := zmem 1736 (by decide +kernel) rfl
theorem im_X12_meeting : Cond.instanceMethod yX12_meeting ∈ zB := zmem 1737 (by decide +kernel) rfl
theorem se_X12_meeting : Cond.selects yX12_meeting.cls yX12_meeting yX12_meeting ∈ zB := zmem 1738 (by decide +kernel) rfl
theorem md_X11_stand : zMd yX11_stand cX11_stand 8 5 (some .boolean) := ⟨zmw (zmt_3 _ (List.mem_of_getElem? (i := 76) rfl)) rfl, zmem 112 (by decide +kernel) rfl, by decide, by decide, by decide +kernel, by decide⟩
theorem ml_L_34 : Cond.methodLink RL 34 yX11_stand ∈ zB := zmem 664 (by decide +kernel) rfl
theorem im_X11_stand : Cond.instanceMethod yX11_stand ∈ zB := zmem 665 (by decide +kernel) rfl
theorem se_X11_stand : Cond.selects yX11_stand.cls yX11_stand yX11_stand ∈ zB := zmem 666 (by decide +kernel) rfl
theorem md_X12_stand : zMd yX12_stand cX12_stand 7 5 (some .boolean) := ⟨zmw (zmt_7 _ (List.mem_of_getElem? (i := 192) rfl)) rfl, zmem 127 (by decide +kernel) rfl, by decide, by decide, by decide +kernel, by decide⟩
theorem ml_L_38 : Cond.methodLink RL 38 yX12_stand ∈ zB := zmem 1740 (by decide +kernel) rfl
theorem im_X12_stand : Cond.instanceMethod yX12_stand ∈ zB := zmem 1741 (by decide +kernel) rfl
theorem se_X12_stand : Cond.selects yX12_stand.cls yX12_stand yX12_stand ∈ zB := zmem 1742 (by decide +kernel) rfl
theorem md_X11_look : zMd yX11_look cX11_look 4 2 (some .int) := ⟨zmw (zmt_3 _ (List.mem_of_getElem? (i := 84) rfl)) rfl, zmem 112 (by decide +kernel) rfl, by decide, by decide, by decide +kernel, by decide⟩
theorem ml_L_39 : Cond.methodLink RL 39 yX11_look ∈ zB := zmem 672 (by decide +kernel) rfl
theorem im_X11_look : Cond.instanceMethod yX11_look ∈ zB := zmem 673 (by decide +kernel) rfl
theorem se_X11_look : Cond.selects yX11_look.cls yX11_look yX11_look ∈ zB := zmem 674 (by decide +kernel) rfl
theorem md_X12_look : zMd yX12_look cX12_look 3 2 (some .int) := ⟨zmw (zmt_7 _ (List.mem_of_getElem? (i := 200) rfl)) rfl, zmem 127 (by decide +kernel) rfl, by decide, by decide, by decide +kernel, by decide⟩
theorem ml_L_43 : Cond.methodLink RL 43 yX12_look ∈ zB := zmem 1748 (by decide +kernel) rfl
theorem im_X12_look : Cond.instanceMethod yX12_look ∈ zB := zmem 1749 (by decide +kernel) rfl
theorem se_X12_look : Cond.selects yX12_look.cls yX12_look yX12_look ∈ zB := zmem 1750 (by decide +kernel) rfl
theorem kl_L_54 : Cond.constantLong RL 54 4294967295 ∈ zB := zmem 1968 (by decide +kernel) rfl
theorem md_X11_feed : zMd yX11_feed cX11_feed 7 3 (some .int) := ⟨zmw (zmt_3 _ (List.mem_of_getElem? (i := 112) rfl)) rfl, zmem 112 (by decide +kernel) rfl, by decide, by decide, by decide +kernel, by decide⟩
theorem ml_L_56 : Cond.methodLink RL 56 yX11_feed ∈ zB := zmem 700 (by decide +kernel) rfl
theorem im_X11_feed : Cond.instanceMethod yX11_feed ∈ zB := zmem 701 (by decide +kernel) rfl
theorem se_X11_feed : Cond.selects yX11_feed.cls yX11_feed yX11_feed ∈ zB := zmem 702 (by decide +kernel) rfl
theorem md_X12_feed : zMd yX12_feed cX12_feed 7 3 (some .int) := ⟨zmw (zmt_6 _ (List.mem_of_getElem? (i := 31) rfl)) rfl, zmem 127 (by decide +kernel) rfl, by decide, by decide, by decide +kernel, by decide⟩
theorem ml_L_60 : Cond.methodLink RL 60 yX12_feed ∈ zB := zmem 1339 (by decide +kernel) rfl
theorem im_X12_feed : Cond.instanceMethod yX12_feed ∈ zB := zmem 1340 (by decide +kernel) rfl
theorem se_X12_feed : Cond.selects yX12_feed.cls yX12_feed yX12_feed ∈ zB := zmem 1341 (by decide +kernel) rfl
theorem md_X11_law : zMd yX11_law cX11_law 3 1 (some .int) := ⟨zmw (zmt_3 _ (List.mem_of_getElem? (i := 121) rfl)) rfl, zmem 112 (by decide +kernel) rfl, by decide, by decide, by decide +kernel, by decide⟩
theorem ml_L_61 : Cond.methodLink RL 61 yX11_law ∈ zB := zmem 709 (by decide +kernel) rfl
theorem im_X11_law : Cond.instanceMethod yX11_law ∈ zB := zmem 710 (by decide +kernel) rfl
theorem se_X11_law : Cond.selects yX11_law.cls yX11_law yX11_law ∈ zB := zmem 711 (by decide +kernel) rfl
theorem md_X12_law : zMd yX12_law cX12_law 2 1 (some .int) := ⟨zmw (zmt_7 _ (List.mem_of_getElem? (i := 67) rfl)) rfl, zmem 127 (by decide +kernel) rfl, by decide, by decide, by decide +kernel, by decide⟩
theorem ml_L_64 : Cond.methodLink RL 64 yX12_law ∈ zB := zmem 1615 (by decide +kernel) rfl
theorem im_X12_law : Cond.instanceMethod yX12_law ∈ zB := zmem 1616 (by decide +kernel) rfl
theorem se_X12_law : Cond.selects yX12_law.cls yX12_law yX12_law ∈ zB := zmem 1617 (by decide +kernel) rfl
theorem md_X11_whose : zMd yX11_whose cX11_whose 5 3 (some .int) := ⟨zmw (zmt_4 _ (List.mem_of_getElem? (i := 93) rfl)) rfl, zmem 112 (by decide +kernel) rfl, by decide, by decide, by decide +kernel, by decide⟩
theorem ml_L_65 : Cond.methodLink RL 65 yX11_whose ∈ zB := zmem 921 (by decide +kernel) rfl
theorem im_X11_whose : Cond.instanceMethod yX11_whose ∈ zB := zmem 922 (by decide +kernel) rfl
theorem se_X11_whose : Cond.selects yX11_whose.cls yX11_whose yX11_whose ∈ zB := zmem 923 (by decide +kernel) rfl
theorem md_X12_whose : zMd yX12_whose cX12_whose 4 3 (some .int) := ⟨zmw (zmt_7 _ (List.mem_of_getElem? (i := 231) rfl)) rfl, zmem 127 (by decide +kernel) rfl, by decide, by decide, by decide +kernel, by decide⟩
theorem ml_L_68 : Cond.methodLink RL 68 yX12_whose ∈ zB := zmem 1779 (by decide +kernel) rfl
theorem im_X12_whose : Cond.instanceMethod yX12_whose ∈ zB := zmem 1780 (by decide +kernel) rfl
theorem se_X12_whose : Cond.selects yX12_whose.cls yX12_whose yX12_whose ∈ zB := zmem 1781 (by decide +kernel) rfl
theorem md_X11_changes : zMd yX11_changes cX11_changes 7 2 (some .int) := ⟨zmw (zmt_4 _ (List.mem_of_getElem? (i := 141) rfl)) rfl, zmem 112 (by decide +kernel) rfl, by decide, by decide, by decide +kernel, by decide⟩
theorem ml_L_69 : Cond.methodLink RL 69 yX11_changes ∈ zB := zmem 969 (by decide +kernel) rfl
theorem im_X11_changes : Cond.instanceMethod yX11_changes ∈ zB := zmem 970 (by decide +kernel) rfl
theorem se_X11_changes : Cond.selects yX11_changes.cls yX11_changes yX11_changes ∈ zB := zmem 971 (by decide +kernel) rfl
theorem md_X12_changes : zMd yX12_changes cX12_changes 6 2 (some .int) := ⟨zmw (zmt_8 _ (List.mem_of_getElem? (i := 18) rfl)) rfl, zmem 127 (by decide +kernel) rfl, by decide, by decide, by decide +kernel, by decide⟩
theorem ml_L_72 : Cond.methodLink RL 72 yX12_changes ∈ zB := zmem 1806 (by decide +kernel) rfl
theorem im_X12_changes : Cond.instanceMethod yX12_changes ∈ zB := zmem 1807 (by decide +kernel) rfl
theorem se_X12_changes : Cond.selects yX12_changes.cls yX12_changes yX12_changes ∈ zB := zmem 1808 (by decide +kernel) rfl
theorem md_X11_ruling : zMd yX11_ruling cX11_ruling 4 2 (some .boolean) := ⟨zmw (zmt_4 _ (List.mem_of_getElem? (i := 145) rfl)) rfl, zmem 112 (by decide +kernel) rfl, by decide, by decide, by decide +kernel, by decide⟩
theorem ml_L_73 : Cond.methodLink RL 73 yX11_ruling ∈ zB := zmem 973 (by decide +kernel) rfl
theorem im_X11_ruling : Cond.instanceMethod yX11_ruling ∈ zB := zmem 974 (by decide +kernel) rfl
theorem se_X11_ruling : Cond.selects yX11_ruling.cls yX11_ruling yX11_ruling ∈ zB := zmem 975 (by decide +kernel) rfl
theorem md_X12_ruling : zMd yX12_ruling cX12_ruling 3 2 (some .boolean) := ⟨zmw (zmt_8 _ (List.mem_of_getElem? (i := 22) rfl)) rfl, zmem 127 (by decide +kernel) rfl, by decide, by decide, by decide +kernel, by decide⟩
theorem ml_L_77 : Cond.methodLink RL 77 yX12_ruling ∈ zB := zmem 1810 (by decide +kernel) rfl
theorem im_X12_ruling : Cond.instanceMethod yX12_ruling ∈ zB := zmem 1811 (by decide +kernel) rfl
theorem se_X12_ruling : Cond.selects yX12_ruling.cls yX12_ruling yX12_ruling ∈ zB := zmem 1812 (by decide +kernel) rfl
theorem md_X11_customs : zMd yX11_customs cX11_customs 2 1 (some .int) := ⟨zmw (zmt_4 _ (List.mem_of_getElem? (i := 153) rfl)) rfl, zmem 112 (by decide +kernel) rfl, by decide, by decide, by decide +kernel, by decide⟩
theorem ml_L_78 : Cond.methodLink RL 78 yX11_customs ∈ zB := zmem 981 (by decide +kernel) rfl
theorem im_X11_customs : Cond.instanceMethod yX11_customs ∈ zB := zmem 982 (by decide +kernel) rfl
theorem se_X11_customs : Cond.selects yX11_customs.cls yX11_customs yX11_customs ∈ zB := zmem 983 (by decide +kernel) rfl
theorem md_X12_customs : zMd yX12_customs cX12_customs 2 1 (some .int) := ⟨zmw (zmt_8 _ (List.mem_of_getElem? (i := 26) rfl)) rfl, zmem 127 (by decide +kernel) rfl, by decide, by decide, by decide +kernel, by decide⟩
theorem ml_L_81 : Cond.methodLink RL 81 yX12_customs ∈ zB := zmem 1814 (by decide +kernel) rfl
theorem im_X12_customs : Cond.instanceMethod yX12_customs ∈ zB := zmem 1815 (by decide +kernel) rfl
theorem se_X12_customs : Cond.selects yX12_customs.cls yX12_customs yX12_customs ∈ zB := zmem 1816 (by decide +kernel) rfl
theorem md_X11_held : zMd yX11_held cX11_held 4 2 (some .int) := ⟨zmw (zmt_4 _ (List.mem_of_getElem? (i := 183) rfl)) rfl, zmem 112 (by decide +kernel) rfl, by decide, by decide, by decide +kernel, by decide⟩
theorem ml_L_82 : Cond.methodLink RL 82 yX11_held ∈ zB := zmem 1011 (by decide +kernel) rfl
theorem im_X11_held : Cond.instanceMethod yX11_held ∈ zB := zmem 1012 (by decide +kernel) rfl
theorem se_X11_held : Cond.selects yX11_held.cls yX11_held yX11_held ∈ zB := zmem 1013 (by decide +kernel) rfl
theorem md_X12_held : zMd yX12_held cX12_held 6 2 (some .int) := ⟨zmw (zmt_8 _ (List.mem_of_getElem? (i := 45) rfl)) rfl, zmem 127 (by decide +kernel) rfl, by decide, by decide, by decide +kernel, by decide⟩
theorem ml_L_85 : Cond.methodLink RL 85 yX12_held ∈ zB := zmem 1833 (by decide +kernel) rfl
theorem im_X12_held : Cond.instanceMethod yX12_held ∈ zB := zmem 1834 (by decide +kernel) rfl
theorem se_X12_held : Cond.selects yX12_held.cls yX12_held yX12_held ∈ zB := zmem 1835 (by decide +kernel) rfl
theorem md_X11_since : zMd yX11_since cX11_since 2 1 (some .int) := ⟨zmw (zmt_4 _ (List.mem_of_getElem? (i := 191) rfl)) rfl, zmem 112 (by decide +kernel) rfl, by decide, by decide, by decide +kernel, by decide⟩
theorem ml_L_86 : Cond.methodLink RL 86 yX11_since ∈ zB := zmem 1019 (by decide +kernel) rfl
theorem im_X11_since : Cond.instanceMethod yX11_since ∈ zB := zmem 1020 (by decide +kernel) rfl
theorem se_X11_since : Cond.selects yX11_since.cls yX11_since yX11_since ∈ zB := zmem 1021 (by decide +kernel) rfl
theorem md_X12_since : zMd yX12_since cX12_since 6 1 (some .int) := ⟨zmw (zmt_8 _ (List.mem_of_getElem? (i := 49) rfl)) rfl, zmem 127 (by decide +kernel) rfl, by decide, by decide, by decide +kernel, by decide⟩
theorem ml_L_89 : Cond.methodLink RL 89 yX12_since ∈ zB := zmem 1837 (by decide +kernel) rfl
theorem im_X12_since : Cond.instanceMethod yX12_since ∈ zB := zmem 1838 (by decide +kernel) rfl
theorem se_X12_since : Cond.selects yX12_since.cls yX12_since yX12_since ∈ zB := zmem 1839 (by decide +kernel) rfl
theorem md_X11_stream : zMd yX11_stream cX11_stream 8 5 (some .boolean) := ⟨zmw (zmt_4 _ (List.mem_of_getElem? (i := 203) rfl)) rfl, zmem 112 (by decide +kernel) rfl, by decide, by decide, by decide +kernel, by decide⟩
theorem ml_L_90 : Cond.methodLink RL 90 yX11_stream ∈ zB := zmem 1031 (by decide +kernel) rfl
theorem im_X11_stream : Cond.instanceMethod yX11_stream ∈ zB := zmem 1032 (by decide +kernel) rfl
theorem se_X11_stream : Cond.selects yX11_stream.cls yX11_stream yX11_stream ∈ zB := zmem 1033 (by decide +kernel) rfl
theorem md_X12_stream : zMd yX12_stream cX12_stream 7 5 (some .boolean) := ⟨zmw (zmt_8 _ (List.mem_of_getElem? (i := 53) rfl)) rfl, zmem 127 (by decide +kernel) rfl, by decide, by decide, by decide +kernel, by decide⟩
theorem ml_L_93 : Cond.methodLink RL 93 yX12_stream ∈ zB := zmem 1841 (by decide +kernel) rfl
theorem im_X12_stream : Cond.instanceMethod yX12_stream ∈ zB := zmem 1842 (by decide +kernel) rfl
theorem se_X12_stream : Cond.selects yX12_stream.cls yX12_stream yX12_stream ∈ zB := zmem 1843 (by decide +kernel) rfl
theorem md_X11_together : zMd yX11_together cX11_together 4 3 (some .boolean) := ⟨zmw (zmt_4 _ (List.mem_of_getElem? (i := 216) rfl)) rfl, zmem 112 (by decide +kernel) rfl, by decide, by decide, by decide +kernel, by decide⟩
theorem ml_L_94 : Cond.methodLink RL 94 yX11_together ∈ zB := zmem 1044 (by decide +kernel) rfl
theorem im_X11_together : Cond.instanceMethod yX11_together ∈ zB := zmem 1045 (by decide +kernel) rfl
theorem se_X11_together : Cond.selects yX11_together.cls yX11_together yX11_together ∈ zB := zmem 1046 (by decide +kernel) rfl
theorem md_X12_together : zMd yX12_together cX12_together 4 3 (some .boolean) := ⟨zmw (zmt_8 _ (List.mem_of_getElem? (i := 60) rfl)) rfl, zmem 127 (by decide +kernel) rfl, by decide, by decide, by decide +kernel, by decide⟩
theorem ml_L_98 : Cond.methodLink RL 98 yX12_together ∈ zB := zmem 1848 (by decide +kernel) rfl
theorem im_X12_together : Cond.instanceMethod yX12_together ∈ zB := zmem 1849 (by decide +kernel) rfl
theorem se_X12_together : Cond.selects yX12_together.cls yX12_together yX12_together ∈ zB := zmem 1850 (by decide +kernel) rfl
theorem md_X11_lights : zMd yX11_lights cX11_lights 4 2 (some .int) := ⟨zmw (zmt_4 _ (List.mem_of_getElem? (i := 224) rfl)) rfl, zmem 112 (by decide +kernel) rfl, by decide, by decide, by decide +kernel, by decide⟩
theorem ml_L_99 : Cond.methodLink RL 99 yX11_lights ∈ zB := zmem 1052 (by decide +kernel) rfl
theorem im_X11_lights : Cond.instanceMethod yX11_lights ∈ zB := zmem 1053 (by decide +kernel) rfl
theorem se_X11_lights : Cond.selects yX11_lights.cls yX11_lights yX11_lights ∈ zB := zmem 1054 (by decide +kernel) rfl
theorem md_X12_lights : zMd yX12_lights cX12_lights 5 2 (some .int) := ⟨zmw (zmt_8 _ (List.mem_of_getElem? (i := 64) rfl)) rfl, zmem 127 (by decide +kernel) rfl, by decide, by decide, by decide +kernel, by decide⟩
theorem ml_L_102 : Cond.methodLink RL 102 yX12_lights ∈ zB := zmem 1852 (by decide +kernel) rfl
theorem im_X12_lights : Cond.instanceMethod yX12_lights ∈ zB := zmem 1853 (by decide +kernel) rfl
theorem se_X12_lights : Cond.selects yX12_lights.cls yX12_lights yX12_lights ∈ zB := zmem 1854 (by decide +kernel) rfl
theorem md_X11_voters : zMd yX11_voters cX11_voters 2 1 (some .int) := ⟨zmw (zmt_5 _ (List.mem_of_getElem? (i := 33) rfl)) rfl, zmem 112 (by decide +kernel) rfl, by decide, by decide, by decide +kernel, by decide⟩
theorem ml_L_103 : Cond.methodLink RL 103 yX11_voters ∈ zB := zmem 1101 (by decide +kernel) rfl
theorem im_X11_voters : Cond.instanceMethod yX11_voters ∈ zB := zmem 1102 (by decide +kernel) rfl
theorem se_X11_voters : Cond.selects yX11_voters.cls yX11_voters yX11_voters ∈ zB := zmem 1103 (by decide +kernel) rfl
theorem md_X12_voters : zMd yX12_voters cX12_voters 3 1 (some .int) := ⟨zmw (zmt_8 _ (List.mem_of_getElem? (i := 91) rfl)) rfl, zmem 127 (by decide +kernel) rfl, by decide, by decide, by decide +kernel, by decide⟩
theorem ml_L_106 : Cond.methodLink RL 106 yX12_voters ∈ zB := zmem 1879 (by decide +kernel) rfl
theorem im_X12_voters : Cond.instanceMethod yX12_voters ∈ zB := zmem 1880 (by decide +kernel) rfl
theorem se_X12_voters : Cond.selects yX12_voters.cls yX12_voters yX12_voters ∈ zB := zmem 1881 (by decide +kernel) rfl
theorem md_X11_leans : zMd yX11_leans cX11_leans 4 3 (some .boolean) := ⟨zmw (zmt_5 _ (List.mem_of_getElem? (i := 41) rfl)) rfl, zmem 112 (by decide +kernel) rfl, by decide, by decide, by decide +kernel, by decide⟩
theorem ml_L_107 : Cond.methodLink RL 107 yX11_leans ∈ zB := zmem 1109 (by decide +kernel) rfl
theorem im_X11_leans : Cond.instanceMethod yX11_leans ∈ zB := zmem 1110 (by decide +kernel) rfl
theorem se_X11_leans : Cond.selects yX11_leans.cls yX11_leans yX11_leans ∈ zB := zmem 1111 (by decide +kernel) rfl
theorem md_X12_leans : zMd yX12_leans cX12_leans 4 3 (some .boolean) := ⟨zmw (zmt_8 _ (List.mem_of_getElem? (i := 95) rfl)) rfl, zmem 127 (by decide +kernel) rfl, by decide, by decide, by decide +kernel, by decide⟩
theorem ml_L_111 : Cond.methodLink RL 111 yX12_leans ∈ zB := zmem 1883 (by decide +kernel) rfl
theorem im_X12_leans : Cond.instanceMethod yX12_leans ∈ zB := zmem 1884 (by decide +kernel) rfl
theorem se_X12_leans : Cond.selects yX12_leans.cls yX12_leans yX12_leans ∈ zB := zmem 1885 (by decide +kernel) rfl
theorem md_X11_passes : zMd yX11_passes cX11_passes 2 1 (some .int) := ⟨zmw (zmt_5 _ (List.mem_of_getElem? (i := 50) rfl)) rfl, zmem 112 (by decide +kernel) rfl, by decide, by decide, by decide +kernel, by decide⟩
theorem ml_L_112 : Cond.methodLink RL 112 yX11_passes ∈ zB := zmem 1118 (by decide +kernel) rfl
theorem im_X11_passes : Cond.instanceMethod yX11_passes ∈ zB := zmem 1119 (by decide +kernel) rfl
theorem se_X11_passes : Cond.selects yX11_passes.cls yX11_passes yX11_passes ∈ zB := zmem 1120 (by decide +kernel) rfl
theorem md_X12_passes : zMd yX12_passes cX12_passes 2 1 (some .int) := ⟨zmw (zmt_8 _ (List.mem_of_getElem? (i := 99) rfl)) rfl, zmem 127 (by decide +kernel) rfl, by decide, by decide, by decide +kernel, by decide⟩
theorem ml_L_115 : Cond.methodLink RL 115 yX12_passes ∈ zB := zmem 1887 (by decide +kernel) rfl
theorem im_X12_passes : Cond.instanceMethod yX12_passes ∈ zB := zmem 1888 (by decide +kernel) rfl
theorem se_X12_passes : Cond.selects yX12_passes.cls yX12_passes yX12_passes ∈ zB := zmem 1889 (by decide +kernel) rfl
theorem md_X11_most : zMd yX11_most cX11_most 2 1 (some .int) := ⟨zmw (zmt_5 _ (List.mem_of_getElem? (i := 75) rfl)) rfl, zmem 112 (by decide +kernel) rfl, by decide, by decide, by decide +kernel, by decide⟩
theorem ml_L_116 : Cond.methodLink RL 116 yX11_most ∈ zB := zmem 1143 (by decide +kernel) rfl
theorem im_X11_most : Cond.instanceMethod yX11_most ∈ zB := zmem 1144 (by decide +kernel) rfl
theorem se_X11_most : Cond.selects yX11_most.cls yX11_most yX11_most ∈ zB := zmem 1145 (by decide +kernel) rfl
theorem md_X12_most : zMd yX12_most cX12_most 6 1 (some .int) := ⟨zmw (zmt_8 _ (List.mem_of_getElem? (i := 114) rfl)) rfl, zmem 127 (by decide +kernel) rfl, by decide, by decide, by decide +kernel, by decide⟩
theorem ml_L_119 : Cond.methodLink RL 119 yX12_most ∈ zB := zmem 1902 (by decide +kernel) rfl
theorem im_X12_most : Cond.instanceMethod yX12_most ∈ zB := zmem 1903 (by decide +kernel) rfl
theorem se_X12_most : Cond.selects yX12_most.cls yX12_most yX12_most ∈ zB := zmem 1904 (by decide +kernel) rfl
theorem md_X11_counted : zMd yX11_counted cX11_counted 6 4 (some .boolean) := ⟨zmw (zmt_5 _ (List.mem_of_getElem? (i := 89) rfl)) rfl, zmem 112 (by decide +kernel) rfl, by decide, by decide, by decide +kernel, by decide⟩
theorem ml_L_120 : Cond.methodLink RL 120 yX11_counted ∈ zB := zmem 1157 (by decide +kernel) rfl
theorem im_X11_counted : Cond.instanceMethod yX11_counted ∈ zB := zmem 1158 (by decide +kernel) rfl
theorem se_X11_counted : Cond.selects yX11_counted.cls yX11_counted yX11_counted ∈ zB := zmem 1159 (by decide +kernel) rfl
theorem md_X12_counted : zMd yX12_counted cX12_counted 5 4 (some .boolean) := ⟨zmw (zmt_8 _ (List.mem_of_getElem? (i := 121) rfl)) rfl, zmem 127 (by decide +kernel) rfl, by decide, by decide, by decide +kernel, by decide⟩
theorem ml_L_124 : Cond.methodLink RL 124 yX12_counted ∈ zB := zmem 1909 (by decide +kernel) rfl
theorem im_X12_counted : Cond.instanceMethod yX12_counted ∈ zB := zmem 1910 (by decide +kernel) rfl
theorem se_X12_counted : Cond.selects yX12_counted.cls yX12_counted yX12_counted ∈ zB := zmem 1911 (by decide +kernel) rfl
theorem md_X11_fell : zMd yX11_fell cX11_fell 4 3 (some .int) := ⟨zmw (zmt_5 _ (List.mem_of_getElem? (i := 98) rfl)) rfl, zmem 112 (by decide +kernel) rfl, by decide, by decide, by decide +kernel, by decide⟩
theorem ml_L_125 : Cond.methodLink RL 125 yX11_fell ∈ zB := zmem 1166 (by decide +kernel) rfl
theorem im_X11_fell : Cond.instanceMethod yX11_fell ∈ zB := zmem 1167 (by decide +kernel) rfl
theorem se_X11_fell : Cond.selects yX11_fell.cls yX11_fell yX11_fell ∈ zB := zmem 1168 (by decide +kernel) rfl
theorem md_X12_fell : zMd yX12_fell cX12_fell 6 3 (some .int) := ⟨zmw (zmt_8 _ (List.mem_of_getElem? (i := 126) rfl)) rfl, zmem 127 (by decide +kernel) rfl, by decide, by decide, by decide +kernel, by decide⟩
theorem ml_L_128 : Cond.methodLink RL 128 yX12_fell ∈ zB := zmem 1914 (by decide +kernel) rfl
theorem im_X12_fell : Cond.instanceMethod yX12_fell ∈ zB := zmem 1915 (by decide +kernel) rfl
theorem se_X12_fell : Cond.selects yX12_fell.cls yX12_fell yX12_fell ∈ zB := zmem 1916 (by decide +kernel) rfl
theorem md_X11_street : zMd yX11_street cX11_street 9 6 (some .boolean) := ⟨zmw (zmt_5 _ (List.mem_of_getElem? (i := 107) rfl)) rfl, zmem 112 (by decide +kernel) rfl, by decide, by decide, by decide +kernel, by decide⟩
theorem ml_L_129 : Cond.methodLink RL 129 yX11_street ∈ zB := zmem 1175 (by decide +kernel) rfl
theorem im_X11_street : Cond.instanceMethod yX11_street ∈ zB := zmem 1176 (by decide +kernel) rfl
theorem se_X11_street : Cond.selects yX11_street.cls yX11_street yX11_street ∈ zB := zmem 1177 (by decide +kernel) rfl
theorem md_X12_street : zMd yX12_street cX12_street 8 6 (some .boolean) := ⟨zmw (zmt_8 _ (List.mem_of_getElem? (i := 130) rfl)) rfl, zmem 127 (by decide +kernel) rfl, by decide, by decide, by decide +kernel, by decide⟩
theorem ml_L_133 : Cond.methodLink RL 133 yX12_street ∈ zB := zmem 1918 (by decide +kernel) rfl
theorem im_X12_street : Cond.instanceMethod yX12_street ∈ zB := zmem 1919 (by decide +kernel) rfl
theorem se_X12_street : Cond.selects yX12_street.cls yX12_street yX12_street ∈ zB := zmem 1920 (by decide +kernel) rfl
theorem md_X11_trip : zMd yX11_trip cX11_trip 3 2 (some .int) := ⟨zmw (zmt_5 _ (List.mem_of_getElem? (i := 120) rfl)) rfl, zmem 112 (by decide +kernel) rfl, by decide, by decide, by decide +kernel, by decide⟩
theorem ml_L_134 : Cond.methodLink RL 134 yX11_trip ∈ zB := zmem 1188 (by decide +kernel) rfl
theorem im_X11_trip : Cond.instanceMethod yX11_trip ∈ zB := zmem 1189 (by decide +kernel) rfl
theorem se_X11_trip : Cond.selects yX11_trip.cls yX11_trip yX11_trip ∈ zB := zmem 1190 (by decide +kernel) rfl
theorem md_X12_trip : zMd yX12_trip cX12_trip 3 2 (some .int) := ⟨zmw (zmt_8 _ (List.mem_of_getElem? (i := 137) rfl)) rfl, zmem 127 (by decide +kernel) rfl, by decide, by decide, by decide +kernel, by decide⟩
theorem ml_L_137 : Cond.methodLink RL 137 yX12_trip ∈ zB := zmem 1925 (by decide +kernel) rfl
theorem im_X12_trip : Cond.instanceMethod yX12_trip ∈ zB := zmem 1926 (by decide +kernel) rfl
theorem se_X12_trip : Cond.selects yX12_trip.cls yX12_trip yX12_trip ∈ zB := zmem 1927 (by decide +kernel) rfl
theorem md_X11_plan : zMd yX11_plan cX11_plan 4 2 (some .int) := ⟨zmw (zmt_5 _ (List.mem_of_getElem? (i := 128) rfl)) rfl, zmem 112 (by decide +kernel) rfl, by decide, by decide, by decide +kernel, by decide⟩
theorem ml_L_138 : Cond.methodLink RL 138 yX11_plan ∈ zB := zmem 1196 (by decide +kernel) rfl
theorem im_X11_plan : Cond.instanceMethod yX11_plan ∈ zB := zmem 1197 (by decide +kernel) rfl
theorem se_X11_plan : Cond.selects yX11_plan.cls yX11_plan yX11_plan ∈ zB := zmem 1198 (by decide +kernel) rfl
theorem md_X12_plan : zMd yX12_plan cX12_plan 6 2 (some .int) := ⟨zmw (zmt_8 _ (List.mem_of_getElem? (i := 141) rfl)) rfl, zmem 127 (by decide +kernel) rfl, by decide, by decide, by decide +kernel, by decide⟩
theorem ml_L_141 : Cond.methodLink RL 141 yX12_plan ∈ zB := zmem 1929 (by decide +kernel) rfl
theorem im_X12_plan : Cond.instanceMethod yX12_plan ∈ zB := zmem 1930 (by decide +kernel) rfl
theorem se_X12_plan : Cond.selects yX12_plan.cls yX12_plan yX12_plan ∈ zB := zmem 1931 (by decide +kernel) rfl
theorem md_X11_count : zMd yX11_count cX11_count 2 1 (some .int) := ⟨zmw (zmt_5 _ (List.mem_of_getElem? (i := 178) rfl)) rfl, zmem 112 (by decide +kernel) rfl, by decide, by decide, by decide +kernel, by decide⟩
theorem ml_L_142 : Cond.methodLink RL 142 yX11_count ∈ zB := zmem 1246 (by decide +kernel) rfl
theorem im_X11_count : Cond.instanceMethod yX11_count ∈ zB := zmem 1247 (by decide +kernel) rfl
theorem se_X11_count : Cond.selects yX11_count.cls yX11_count yX11_count ∈ zB := zmem 1248 (by decide +kernel) rfl
theorem md_X12_count : zMd yX12_count cX12_count 2 1 (some .int) := ⟨zmw (zmt_8 _ (List.mem_of_getElem? (i := 165) rfl)) rfl, zmem 127 (by decide +kernel) rfl, by decide, by decide, by decide +kernel, by decide⟩
theorem ml_L_145 : Cond.methodLink RL 145 yX12_count ∈ zB := zmem 1953 (by decide +kernel) rfl
theorem im_X12_count : Cond.instanceMethod yX12_count ∈ zB := zmem 1954 (by decide +kernel) rfl
theorem se_X12_count : Cond.selects yX12_count.cls yX12_count yX12_count ∈ zB := zmem 1955 (by decide +kernel) rfl
theorem ck_L_8 : Cond.classLink RL 8 RX11 ∈ zB := zmem 138 (by decide +kernel) rfl
theorem in_X11 : Cond.instantiable RX11 13 ∈ zB := zmem 139 (by decide +kernel) rfl
theorem it_X11 : Cond.initialized RX11 ∈ zB := zmem 112 (by decide +kernel) rfl
theorem md_X11_init : zMd yX11_init cX11_init 1 0 none := ⟨zmw (zmt_1 _ (List.mem_of_getElem? (i := 31) rfl)) rfl, zmem 112 (by decide +kernel) rfl, by decide, by decide, by decide +kernel, by decide⟩
theorem ml_L_15 : Cond.methodLink RL 15 yX11_init ∈ zB := zmem 140 (by decide +kernel) rfl
theorem im_X11_init : Cond.instanceMethod yX11_init ∈ zB := zmem 141 (by decide +kernel) rfl
theorem ck_L_16 : Cond.classLink RL 16 RX12 ∈ zB := zmem 1348 (by decide +kernel) rfl
theorem in_X12 : Cond.instantiable RX12 80 ∈ zB := zmem 1346 (by decide +kernel) rfl
theorem it_X12 : Cond.initialized RX12 ∈ zB := zmem 127 (by decide +kernel) rfl
theorem md_X12_init : zMd yX12_init cX12_init 2 0 none := ⟨zmw (zmt_6 _ (List.mem_of_getElem? (i := 40) rfl)) rfl, zmem 127 (by decide +kernel) rfl, by decide, by decide, by decide +kernel, by decide⟩
theorem ml_L_18 : Cond.methodLink RL 18 yX12_init ∈ zB := zmem 1349 (by decide +kernel) rfl
theorem im_X12_init : Cond.instanceMethod yX12_init ∈ zB := zmem 1350 (by decide +kernel) rfl
def c_L_0 (N v0 v1 v2 : Nat) (v4 : Int32) (h : zH) : Option zH := (aI h v0 (v4 + 1)).bind fun x1 => zif (zob h v1 11) <| (f_X11_years N v1 x1 h).bind fun q3 => (aI q3.2 v0 (v4 + 1)).bind fun x4 => zif (zob q3.2 v2 12) <| (f_X12_years N v2 x4 q3.2).bind fun q6 => some q6.2
set_option maxRecDepth 100000 in
set_option maxHeartbeats 4000000 in
theorem kc_L_0 {N d mc ms v0 v1 v2 v3 : Nat} {v4 : Int32} {h h2 : zH} {vv : Option Value} {hh : zH} (hd0 : 3 ≤ d) (H : c_L_0 N v0 v1 v2 v4 h = some h2) (K : zW yL_law cL_law 7 (some .boolean) d mc ms 1498 [(0, .ref v0), (1, .ref v1), (2, .ref v2), (3, .ref v3), (4, .int v4)] [] h2 vv hh) : zW yL_law cL_law 7 (some .boolean) d (mc + 0) (ms + 0) 164 [(0, .ref v0), (1, .ref v1), (2, .ref v2), (3, .ref v3), (4, .int v4)] [] h vv hh := by
  unfold c_L_0 at H
  refine z_aload_n (pc := 164) 1 dL_law_164 rfl rfl ?_
  refine z_aload_n (pc := 165) 0 dL_law_165 rfl rfl ?_
  refine z_iload (pc := 166) 4 dL_law_166 rfl ?_
  refine z_iconst (pc := 168) (x := 1) dL_law_168 zc_iconst_1 ?_
  refine z_iadd (pc := 169) dL_law_169 ?_
  obtain ⟨x1, ex1, H⟩ := zbind H
  refine z_iaload (pc := 170) dL_law_170 ex1 ?_
  obtain ⟨z2, H⟩ := zifE H
  obtain ⟨q3, eq3, H⟩ := zbind H
  refine z_callV (pc := 171) (mc := mc) (ms := ms) (d' := 1) (mc' := 0) (ms' := 0) (rest := []) [.int x1] dL_law_171 md_X11_years ml_L_19 im_X11_years se_X11_years rfl z2 rfl rfl (Nat.le_of_ble_eq_true rfl) (by omega) (k_X11_years eq3) ?_
  refine z_pop (pc := 174) dL_law_174 rfl ?_
  refine z_aload_n (pc := 175) 2 dL_law_175 rfl rfl ?_
  refine z_aload_n (pc := 176) 0 dL_law_176 rfl rfl ?_
  refine z_iload (pc := 177) 4 dL_law_177 rfl ?_
  refine z_iconst (pc := 179) (x := 1) dL_law_179 zc_iconst_1 ?_
  refine z_iadd (pc := 180) dL_law_180 ?_
  obtain ⟨x4, ex4, H⟩ := zbind H
  refine z_iaload (pc := 181) dL_law_181 ex4 ?_
  obtain ⟨z5, H⟩ := zifE H
  obtain ⟨q6, eq6, H⟩ := zbind H
  refine z_callV (pc := 182) (mc := mc) (ms := ms) (d' := 2) (mc' := 0) (ms' := 0) (rest := []) [.int x4] dL_law_182 md_X12_years ml_L_23 im_X12_years se_X12_years rfl z5 rfl rfl (Nat.le_of_ble_eq_true rfl) (by omega) (k_X12_years eq6) ?_
  refine z_pop (pc := 185) dL_law_185 rfl ?_
  refine z_goto (pc := 186) 1498 dL_law_186 (by decide) ?_
  cases H
  exact z_mono (Nat.le_refl _) (by omega) (by omega) (z_sub [0, 1, 2, 3, 4] rfl K)
def c_L_1 (N v0 v1 v2 : Nat) (v4 : Int32) (h : zH) : Option zH := (aI h v0 (v4 + 1)).bind fun x1 => zif (zob h v1 11) <| (f_X11_view N v1 x1 h).bind fun q3 => (aI q3.2 v0 (v4 + 1)).bind fun x4 => zif (zob q3.2 v2 12) <| (f_X12_view N v2 x4 q3.2).bind fun q6 => some q6.2
set_option maxRecDepth 100000 in
set_option maxHeartbeats 4000000 in
theorem kc_L_1 {N d mc ms v0 v1 v2 v3 : Nat} {v4 : Int32} {h h2 : zH} {vv : Option Value} {hh : zH} (hd0 : 2 ≤ d) (H : c_L_1 N v0 v1 v2 v4 h = some h2) (K : zW yL_law cL_law 7 (some .boolean) d mc ms 1498 [(0, .ref v0), (1, .ref v1), (2, .ref v2), (3, .ref v3), (4, .int v4)] [] h2 vv hh) : zW yL_law cL_law 7 (some .boolean) d (mc + 0) (ms + 0) 189 [(0, .ref v0), (1, .ref v1), (2, .ref v2), (3, .ref v3), (4, .int v4)] [] h vv hh := by
  unfold c_L_1 at H
  refine z_aload_n (pc := 189) 1 dL_law_189 rfl rfl ?_
  refine z_aload_n (pc := 190) 0 dL_law_190 rfl rfl ?_
  refine z_iload (pc := 191) 4 dL_law_191 rfl ?_
  refine z_iconst (pc := 193) (x := 1) dL_law_193 zc_iconst_1 ?_
  refine z_iadd (pc := 194) dL_law_194 ?_
  obtain ⟨x1, ex1, H⟩ := zbind H
  refine z_iaload (pc := 195) dL_law_195 ex1 ?_
  obtain ⟨z2, H⟩ := zifE H
  obtain ⟨q3, eq3, H⟩ := zbind H
  refine z_callV (pc := 196) (mc := mc) (ms := ms) (d' := 1) (mc' := 0) (ms' := 0) (rest := []) [.int x1] dL_law_196 md_X11_view ml_L_24 im_X11_view se_X11_view rfl z2 rfl rfl (Nat.le_of_ble_eq_true rfl) (by omega) (k_X11_view eq3) ?_
  refine z_pop (pc := 199) dL_law_199 rfl ?_
  refine z_aload_n (pc := 200) 2 dL_law_200 rfl rfl ?_
  refine z_aload_n (pc := 201) 0 dL_law_201 rfl rfl ?_
  refine z_iload (pc := 202) 4 dL_law_202 rfl ?_
  refine z_iconst (pc := 204) (x := 1) dL_law_204 zc_iconst_1 ?_
  refine z_iadd (pc := 205) dL_law_205 ?_
  obtain ⟨x4, ex4, H⟩ := zbind H
  refine z_iaload (pc := 206) dL_law_206 ex4 ?_
  obtain ⟨z5, H⟩ := zifE H
  obtain ⟨q6, eq6, H⟩ := zbind H
  refine z_callV (pc := 207) (mc := mc) (ms := ms) (d' := 1) (mc' := 0) (ms' := 0) (rest := []) [.int x4] dL_law_207 md_X12_view ml_L_28 im_X12_view se_X12_view rfl z5 rfl rfl (Nat.le_of_ble_eq_true rfl) (by omega) (k_X12_view eq6) ?_
  refine z_pop (pc := 210) dL_law_210 rfl ?_
  refine z_goto (pc := 211) 1498 dL_law_211 (by decide) ?_
  cases H
  exact z_mono (Nat.le_refl _) (by omega) (by omega) (z_sub [0, 1, 2, 3, 4] rfl K)
def c_L_2 (N v0 v1 v2 : Nat) (v4 : Int32) (h : zH) : Option zH := (aI h v0 (v4 + 1)).bind fun x1 => (aI h v0 (v4 + 2)).bind fun x2 => (aI h v0 (v4 + 3)).bind fun x3 => (aI h v0 (v4 + 4)).bind fun x4 => (aI h v0 (v4 + 5)).bind fun x5 => (aI h v0 (v4 + 6)).bind fun x6 => (aI h v0 (v4 + 7)).bind fun x7 => zif (zob h v1 11) <| (f_X11_meeting N v1 x1 x2 x3 x4 x5 x6 x7 h).bind fun q9 => (aI q9.2 v0 (v4 + 1)).bind fun x10 => (aI q9.2 v0 (v4 + 2)).bind fun x11 => (aI q9.2 v0 (v4 + 3)).bind fun x12 => (aI q9.2 v0 (v4 + 4)).bind fun x13 => (aI q9.2 v0 (v4 + 5)).bind fun x14 => (aI q9.2 v0 (v4 + 6)).bind fun x15 => (aI q9.2 v0 (v4 + 7)).bind fun x16 => zif (zob q9.2 v2 12) <| (f_X12_meeting N v2 x10 x11 x12 x13 x14 x15 x16 q9.2).bind fun q18 => some q18.2
set_option maxRecDepth 100000 in
set_option maxHeartbeats 4000000 in
theorem kc_L_2 {N d mc ms v0 v1 v2 v3 : Nat} {v4 : Int32} {h h2 : zH} {vv : Option Value} {hh : zH} (hd0 : 6 ≤ d) (H : c_L_2 N v0 v1 v2 v4 h = some h2) (K : zW yL_law cL_law 7 (some .boolean) d mc ms 1498 [(0, .ref v0), (1, .ref v1), (2, .ref v2), (3, .ref v3), (4, .int v4)] [] h2 vv hh) : zW yL_law cL_law 7 (some .boolean) d (mc + 1) (ms + 16) 214 [(0, .ref v0), (1, .ref v1), (2, .ref v2), (3, .ref v3), (4, .int v4)] [] h vv hh := by
  unfold c_L_2 at H
  refine z_aload_n (pc := 214) 1 dL_law_214 rfl rfl ?_
  refine z_aload_n (pc := 215) 0 dL_law_215 rfl rfl ?_
  refine z_iload (pc := 216) 4 dL_law_216 rfl ?_
  refine z_iconst (pc := 218) (x := 1) dL_law_218 zc_iconst_1 ?_
  refine z_iadd (pc := 219) dL_law_219 ?_
  obtain ⟨x1, ex1, H⟩ := zbind H
  refine z_iaload (pc := 220) dL_law_220 ex1 ?_
  refine z_aload_n (pc := 221) 0 dL_law_221 rfl rfl ?_
  refine z_iload (pc := 222) 4 dL_law_222 rfl ?_
  refine z_iconst (pc := 224) (x := 2) dL_law_224 zc_iconst_2 ?_
  refine z_iadd (pc := 225) dL_law_225 ?_
  obtain ⟨x2, ex2, H⟩ := zbind H
  refine z_iaload (pc := 226) dL_law_226 ex2 ?_
  refine z_aload_n (pc := 227) 0 dL_law_227 rfl rfl ?_
  refine z_iload (pc := 228) 4 dL_law_228 rfl ?_
  refine z_iconst (pc := 230) (x := 3) dL_law_230 zc_iconst_3 ?_
  refine z_iadd (pc := 231) dL_law_231 ?_
  obtain ⟨x3, ex3, H⟩ := zbind H
  refine z_iaload (pc := 232) dL_law_232 ex3 ?_
  refine z_aload_n (pc := 233) 0 dL_law_233 rfl rfl ?_
  refine z_iload (pc := 234) 4 dL_law_234 rfl ?_
  refine z_iconst (pc := 236) (x := 4) dL_law_236 zc_iconst_4 ?_
  refine z_iadd (pc := 237) dL_law_237 ?_
  obtain ⟨x4, ex4, H⟩ := zbind H
  refine z_iaload (pc := 238) dL_law_238 ex4 ?_
  refine z_aload_n (pc := 239) 0 dL_law_239 rfl rfl ?_
  refine z_iload (pc := 240) 4 dL_law_240 rfl ?_
  refine z_iconst (pc := 242) (x := 5) dL_law_242 zc_iconst_5 ?_
  refine z_iadd (pc := 243) dL_law_243 ?_
  obtain ⟨x5, ex5, H⟩ := zbind H
  refine z_iaload (pc := 244) dL_law_244 ex5 ?_
  refine z_aload_n (pc := 245) 0 dL_law_245 rfl rfl ?_
  refine z_iload (pc := 246) 4 dL_law_246 rfl ?_
  refine z_bipush (pc := 248) (x := 6) dL_law_248 zc_bipush_6 ?_
  refine z_iadd (pc := 250) dL_law_250 ?_
  obtain ⟨x6, ex6, H⟩ := zbind H
  refine z_iaload (pc := 251) dL_law_251 ex6 ?_
  refine z_aload_n (pc := 252) 0 dL_law_252 rfl rfl ?_
  refine z_iload (pc := 253) 4 dL_law_253 rfl ?_
  refine z_bipush (pc := 255) (x := 7) dL_law_255 zc_bipush_7 ?_
  refine z_iadd (pc := 257) dL_law_257 ?_
  obtain ⟨x7, ex7, H⟩ := zbind H
  refine z_iaload (pc := 258) dL_law_258 ex7 ?_
  obtain ⟨z8, H⟩ := zifE H
  obtain ⟨q9, eq9, H⟩ := zbind H
  refine z_callV (pc := 259) (mc := mc) (ms := ms) (d' := 5) (mc' := 1) (ms' := 16) (rest := []) [.int x1, .int x2, .int x3, .int x4, .int x5, .int x6, .int x7] dL_law_259 md_X11_meeting ml_L_29 im_X11_meeting se_X11_meeting rfl z8 rfl rfl (Nat.le_of_ble_eq_true rfl) (by omega) (k_X11_meeting eq9) ?_
  refine z_pop (pc := 262) dL_law_262 rfl ?_
  refine z_aload_n (pc := 263) 2 dL_law_263 rfl rfl ?_
  refine z_aload_n (pc := 264) 0 dL_law_264 rfl rfl ?_
  refine z_iload (pc := 265) 4 dL_law_265 rfl ?_
  refine z_iconst (pc := 267) (x := 1) dL_law_267 zc_iconst_1 ?_
  refine z_iadd (pc := 268) dL_law_268 ?_
  obtain ⟨x10, ex10, H⟩ := zbind H
  refine z_iaload (pc := 269) dL_law_269 ex10 ?_
  refine z_aload_n (pc := 270) 0 dL_law_270 rfl rfl ?_
  refine z_iload (pc := 271) 4 dL_law_271 rfl ?_
  refine z_iconst (pc := 273) (x := 2) dL_law_273 zc_iconst_2 ?_
  refine z_iadd (pc := 274) dL_law_274 ?_
  obtain ⟨x11, ex11, H⟩ := zbind H
  refine z_iaload (pc := 275) dL_law_275 ex11 ?_
  refine z_aload_n (pc := 276) 0 dL_law_276 rfl rfl ?_
  refine z_iload (pc := 277) 4 dL_law_277 rfl ?_
  refine z_iconst (pc := 279) (x := 3) dL_law_279 zc_iconst_3 ?_
  refine z_iadd (pc := 280) dL_law_280 ?_
  obtain ⟨x12, ex12, H⟩ := zbind H
  refine z_iaload (pc := 281) dL_law_281 ex12 ?_
  refine z_aload_n (pc := 282) 0 dL_law_282 rfl rfl ?_
  refine z_iload (pc := 283) 4 dL_law_283 rfl ?_
  refine z_iconst (pc := 285) (x := 4) dL_law_285 zc_iconst_4 ?_
  refine z_iadd (pc := 286) dL_law_286 ?_
  obtain ⟨x13, ex13, H⟩ := zbind H
  refine z_iaload (pc := 287) dL_law_287 ex13 ?_
  refine z_aload_n (pc := 288) 0 dL_law_288 rfl rfl ?_
  refine z_iload (pc := 289) 4 dL_law_289 rfl ?_
  refine z_iconst (pc := 291) (x := 5) dL_law_291 zc_iconst_5 ?_
  refine z_iadd (pc := 292) dL_law_292 ?_
  obtain ⟨x14, ex14, H⟩ := zbind H
  refine z_iaload (pc := 293) dL_law_293 ex14 ?_
  refine z_aload_n (pc := 294) 0 dL_law_294 rfl rfl ?_
  refine z_iload (pc := 295) 4 dL_law_295 rfl ?_
  refine z_bipush (pc := 297) (x := 6) dL_law_297 zc_bipush_6 ?_
  refine z_iadd (pc := 299) dL_law_299 ?_
  obtain ⟨x15, ex15, H⟩ := zbind H
  refine z_iaload (pc := 300) dL_law_300 ex15 ?_
  refine z_aload_n (pc := 301) 0 dL_law_301 rfl rfl ?_
  refine z_iload (pc := 302) 4 dL_law_302 rfl ?_
  refine z_bipush (pc := 304) (x := 7) dL_law_304 zc_bipush_7 ?_
  refine z_iadd (pc := 306) dL_law_306 ?_
  obtain ⟨x16, ex16, H⟩ := zbind H
  refine z_iaload (pc := 307) dL_law_307 ex16 ?_
  obtain ⟨z17, H⟩ := zifE H
  obtain ⟨q18, eq18, H⟩ := zbind H
  refine z_callV (pc := 308) (mc := mc) (ms := ms) (d' := 1) (mc' := 0) (ms' := 0) (rest := []) [.int x10, .int x11, .int x12, .int x13, .int x14, .int x15, .int x16] dL_law_308 md_X12_meeting ml_L_33 im_X12_meeting se_X12_meeting rfl z17 rfl rfl (Nat.le_of_ble_eq_true rfl) (by omega) (k_X12_meeting eq18) ?_
  refine z_pop (pc := 311) dL_law_311 rfl ?_
  refine z_goto (pc := 312) 1498 dL_law_312 (by decide) ?_
  cases H
  exact z_mono (Nat.le_refl _) (by omega) (by omega) (z_sub [0, 1, 2, 3, 4] rfl K)
def c_L_3 (N v0 v1 v2 : Nat) (v4 : Int32) (h : zH) : Option zH := (aI h v0 (v4 + 1)).bind fun x1 => (aI h v0 (v4 + 2)).bind fun x2 => (aI h v0 (v4 + 3)).bind fun x3 => (aI h v0 (v4 + 4)).bind fun x4 => (aI h v0 (v4 + 5)).bind fun x5 => zif (zob h v1 11) <| (f_X11_stand N v1 x1 x2 x3 x4 x5 h).bind fun q7 => (aI q7.2 v0 (v4 + 1)).bind fun x8 => (aI q7.2 v0 (v4 + 2)).bind fun x9 => (aI q7.2 v0 (v4 + 3)).bind fun x10 => (aI q7.2 v0 (v4 + 4)).bind fun x11 => (aI q7.2 v0 (v4 + 5)).bind fun x12 => zif (zob q7.2 v2 12) <| (f_X12_stand N v2 x8 x9 x10 x11 x12 q7.2).bind fun q14 => some q14.2
set_option maxRecDepth 100000 in
set_option maxHeartbeats 4000000 in
theorem kc_L_3 {N d mc ms v0 v1 v2 v3 : Nat} {v4 : Int32} {h h2 : zH} {vv : Option Value} {hh : zH} (hd0 : 6 ≤ d) (H : c_L_3 N v0 v1 v2 v4 h = some h2) (K : zW yL_law cL_law 7 (some .boolean) d mc ms 1498 [(0, .ref v0), (1, .ref v1), (2, .ref v2), (3, .ref v3), (4, .int v4)] [] h2 vv hh) : zW yL_law cL_law 7 (some .boolean) d (mc + 0) (ms + 0) 315 [(0, .ref v0), (1, .ref v1), (2, .ref v2), (3, .ref v3), (4, .int v4)] [] h vv hh := by
  unfold c_L_3 at H
  refine z_aload_n (pc := 315) 1 dL_law_315 rfl rfl ?_
  refine z_aload_n (pc := 316) 0 dL_law_316 rfl rfl ?_
  refine z_iload (pc := 317) 4 dL_law_317 rfl ?_
  refine z_iconst (pc := 319) (x := 1) dL_law_319 zc_iconst_1 ?_
  refine z_iadd (pc := 320) dL_law_320 ?_
  obtain ⟨x1, ex1, H⟩ := zbind H
  refine z_iaload (pc := 321) dL_law_321 ex1 ?_
  refine z_aload_n (pc := 322) 0 dL_law_322 rfl rfl ?_
  refine z_iload (pc := 323) 4 dL_law_323 rfl ?_
  refine z_iconst (pc := 325) (x := 2) dL_law_325 zc_iconst_2 ?_
  refine z_iadd (pc := 326) dL_law_326 ?_
  obtain ⟨x2, ex2, H⟩ := zbind H
  refine z_iaload (pc := 327) dL_law_327 ex2 ?_
  refine z_aload_n (pc := 328) 0 dL_law_328 rfl rfl ?_
  refine z_iload (pc := 329) 4 dL_law_329 rfl ?_
  refine z_iconst (pc := 331) (x := 3) dL_law_331 zc_iconst_3 ?_
  refine z_iadd (pc := 332) dL_law_332 ?_
  obtain ⟨x3, ex3, H⟩ := zbind H
  refine z_iaload (pc := 333) dL_law_333 ex3 ?_
  refine z_aload_n (pc := 334) 0 dL_law_334 rfl rfl ?_
  refine z_iload (pc := 335) 4 dL_law_335 rfl ?_
  refine z_iconst (pc := 337) (x := 4) dL_law_337 zc_iconst_4 ?_
  refine z_iadd (pc := 338) dL_law_338 ?_
  obtain ⟨x4, ex4, H⟩ := zbind H
  refine z_iaload (pc := 339) dL_law_339 ex4 ?_
  refine z_aload_n (pc := 340) 0 dL_law_340 rfl rfl ?_
  refine z_iload (pc := 341) 4 dL_law_341 rfl ?_
  refine z_iconst (pc := 343) (x := 5) dL_law_343 zc_iconst_5 ?_
  refine z_iadd (pc := 344) dL_law_344 ?_
  obtain ⟨x5, ex5, H⟩ := zbind H
  refine z_iaload (pc := 345) dL_law_345 ex5 ?_
  obtain ⟨z6, H⟩ := zifE H
  obtain ⟨q7, eq7, H⟩ := zbind H
  refine z_callV (pc := 346) (mc := mc) (ms := ms) (d' := 5) (mc' := 0) (ms' := 0) (rest := []) [.int x1, .int x2, .int x3, .int x4, .int x5] dL_law_346 md_X11_stand ml_L_34 im_X11_stand se_X11_stand rfl z6 rfl rfl (Nat.le_of_ble_eq_true rfl) (by omega) (k_X11_stand eq7) ?_
  refine z_pop (pc := 349) dL_law_349 rfl ?_
  refine z_aload_n (pc := 350) 2 dL_law_350 rfl rfl ?_
  refine z_aload_n (pc := 351) 0 dL_law_351 rfl rfl ?_
  refine z_iload (pc := 352) 4 dL_law_352 rfl ?_
  refine z_iconst (pc := 354) (x := 1) dL_law_354 zc_iconst_1 ?_
  refine z_iadd (pc := 355) dL_law_355 ?_
  obtain ⟨x8, ex8, H⟩ := zbind H
  refine z_iaload (pc := 356) dL_law_356 ex8 ?_
  refine z_aload_n (pc := 357) 0 dL_law_357 rfl rfl ?_
  refine z_iload (pc := 358) 4 dL_law_358 rfl ?_
  refine z_iconst (pc := 360) (x := 2) dL_law_360 zc_iconst_2 ?_
  refine z_iadd (pc := 361) dL_law_361 ?_
  obtain ⟨x9, ex9, H⟩ := zbind H
  refine z_iaload (pc := 362) dL_law_362 ex9 ?_
  refine z_aload_n (pc := 363) 0 dL_law_363 rfl rfl ?_
  refine z_iload (pc := 364) 4 dL_law_364 rfl ?_
  refine z_iconst (pc := 366) (x := 3) dL_law_366 zc_iconst_3 ?_
  refine z_iadd (pc := 367) dL_law_367 ?_
  obtain ⟨x10, ex10, H⟩ := zbind H
  refine z_iaload (pc := 368) dL_law_368 ex10 ?_
  refine z_aload_n (pc := 369) 0 dL_law_369 rfl rfl ?_
  refine z_iload (pc := 370) 4 dL_law_370 rfl ?_
  refine z_iconst (pc := 372) (x := 4) dL_law_372 zc_iconst_4 ?_
  refine z_iadd (pc := 373) dL_law_373 ?_
  obtain ⟨x11, ex11, H⟩ := zbind H
  refine z_iaload (pc := 374) dL_law_374 ex11 ?_
  refine z_aload_n (pc := 375) 0 dL_law_375 rfl rfl ?_
  refine z_iload (pc := 376) 4 dL_law_376 rfl ?_
  refine z_iconst (pc := 378) (x := 5) dL_law_378 zc_iconst_5 ?_
  refine z_iadd (pc := 379) dL_law_379 ?_
  obtain ⟨x12, ex12, H⟩ := zbind H
  refine z_iaload (pc := 380) dL_law_380 ex12 ?_
  obtain ⟨z13, H⟩ := zifE H
  obtain ⟨q14, eq14, H⟩ := zbind H
  refine z_callV (pc := 381) (mc := mc) (ms := ms) (d' := 1) (mc' := 0) (ms' := 0) (rest := []) [.int x8, .int x9, .int x10, .int x11, .int x12] dL_law_381 md_X12_stand ml_L_38 im_X12_stand se_X12_stand rfl z13 rfl rfl (Nat.le_of_ble_eq_true rfl) (by omega) (k_X12_stand eq14) ?_
  refine z_pop (pc := 384) dL_law_384 rfl ?_
  refine z_goto (pc := 385) 1498 dL_law_385 (by decide) ?_
  cases H
  exact z_mono (Nat.le_refl _) (by omega) (by omega) (z_sub [0, 1, 2, 3, 4] rfl K)
def c_L_4 (N v0 v1 v2 : Nat) (v4 : Int32) (h : zH) : Option zH := (aI h v0 (v4 + 1)).bind fun x1 => (aI h v0 (v4 + 2)).bind fun x2 => zif (zob h v1 11) <| (f_X11_look N v1 x1 x2 h).bind fun q4 => (aI q4.2 v0 (v4 + 1)).bind fun x5 => (aI q4.2 v0 (v4 + 2)).bind fun x6 => zif (zob q4.2 v2 12) <| (f_X12_look N v2 x5 x6 q4.2).bind fun q8 => some q8.2
set_option maxRecDepth 100000 in
set_option maxHeartbeats 4000000 in
theorem kc_L_4 {N d mc ms v0 v1 v2 v3 : Nat} {v4 : Int32} {h h2 : zH} {vv : Option Value} {hh : zH} (hd0 : 7 ≤ d) (H : c_L_4 N v0 v1 v2 v4 h = some h2) (K : zW yL_law cL_law 7 (some .boolean) d mc ms 1498 [(0, .ref v0), (1, .ref v1), (2, .ref v2), (3, .ref v3), (4, .int v4)] [] h2 vv hh) : zW yL_law cL_law 7 (some .boolean) d (mc + 0) (ms + 0) 388 [(0, .ref v0), (1, .ref v1), (2, .ref v2), (3, .ref v3), (4, .int v4)] [] h vv hh := by
  unfold c_L_4 at H
  refine z_aload_n (pc := 388) 1 dL_law_388 rfl rfl ?_
  refine z_aload_n (pc := 389) 0 dL_law_389 rfl rfl ?_
  refine z_iload (pc := 390) 4 dL_law_390 rfl ?_
  refine z_iconst (pc := 392) (x := 1) dL_law_392 zc_iconst_1 ?_
  refine z_iadd (pc := 393) dL_law_393 ?_
  obtain ⟨x1, ex1, H⟩ := zbind H
  refine z_iaload (pc := 394) dL_law_394 ex1 ?_
  refine z_aload_n (pc := 395) 0 dL_law_395 rfl rfl ?_
  refine z_iload (pc := 396) 4 dL_law_396 rfl ?_
  refine z_iconst (pc := 398) (x := 2) dL_law_398 zc_iconst_2 ?_
  refine z_iadd (pc := 399) dL_law_399 ?_
  obtain ⟨x2, ex2, H⟩ := zbind H
  refine z_iaload (pc := 400) dL_law_400 ex2 ?_
  obtain ⟨z3, H⟩ := zifE H
  obtain ⟨q4, eq4, H⟩ := zbind H
  refine z_callV (pc := 401) (mc := mc) (ms := ms) (d' := 6) (mc' := 0) (ms' := 0) (rest := []) [.int x1, .int x2] dL_law_401 md_X11_look ml_L_39 im_X11_look se_X11_look rfl z3 rfl rfl (Nat.le_of_ble_eq_true rfl) (by omega) (k_X11_look eq4) ?_
  refine z_pop (pc := 404) dL_law_404 rfl ?_
  refine z_aload_n (pc := 405) 2 dL_law_405 rfl rfl ?_
  refine z_aload_n (pc := 406) 0 dL_law_406 rfl rfl ?_
  refine z_iload (pc := 407) 4 dL_law_407 rfl ?_
  refine z_iconst (pc := 409) (x := 1) dL_law_409 zc_iconst_1 ?_
  refine z_iadd (pc := 410) dL_law_410 ?_
  obtain ⟨x5, ex5, H⟩ := zbind H
  refine z_iaload (pc := 411) dL_law_411 ex5 ?_
  refine z_aload_n (pc := 412) 0 dL_law_412 rfl rfl ?_
  refine z_iload (pc := 413) 4 dL_law_413 rfl ?_
  refine z_iconst (pc := 415) (x := 2) dL_law_415 zc_iconst_2 ?_
  refine z_iadd (pc := 416) dL_law_416 ?_
  obtain ⟨x6, ex6, H⟩ := zbind H
  refine z_iaload (pc := 417) dL_law_417 ex6 ?_
  obtain ⟨z7, H⟩ := zifE H
  obtain ⟨q8, eq8, H⟩ := zbind H
  refine z_callV (pc := 418) (mc := mc) (ms := ms) (d' := 3) (mc' := 0) (ms' := 0) (rest := []) [.int x5, .int x6] dL_law_418 md_X12_look ml_L_43 im_X12_look se_X12_look rfl z7 rfl rfl (Nat.le_of_ble_eq_true rfl) (by omega) (k_X12_look eq8) ?_
  refine z_pop (pc := 421) dL_law_421 rfl ?_
  refine z_goto (pc := 422) 1498 dL_law_422 (by decide) ?_
  cases H
  exact z_mono (Nat.le_refl _) (by omega) (by omega) (z_sub [0, 1, 2, 3, 4] rfl K)
def c_L_6 (N v0 v1 v2 : Nat) (v4 : Int32) (h : zH) : Option zH := (aI h v0 (v4 + 1)).bind fun x1 => (aI h v0 (v4 + 2)).bind fun x2 => (aI h v0 (v4 + 3)).bind fun x3 => (aI h v0 (v4 + 4)).bind fun x4 => (aI h v0 (v4 + 5)).bind fun x5 => (aI h v0 (v4 + 6)).bind fun x6 => zif (zob h v1 11) <| (f_X11_feed N v1 (((x1.toInt64) <<< ((32 : Int32).toInt64 &&& 63)) ||| ((x2.toInt64) &&& 4294967295)) (((x3.toInt64) <<< ((32 : Int32).toInt64 &&& 63)) ||| ((x4.toInt64) &&& 4294967295)) (((x5.toInt64) <<< ((32 : Int32).toInt64 &&& 63)) ||| ((x6.toInt64) &&& 4294967295)) h).bind fun q8 => (aI q8.2 v0 (v4 + 1)).bind fun x9 => (aI q8.2 v0 (v4 + 2)).bind fun x10 => (aI q8.2 v0 (v4 + 3)).bind fun x11 => (aI q8.2 v0 (v4 + 4)).bind fun x12 => (aI q8.2 v0 (v4 + 5)).bind fun x13 => (aI q8.2 v0 (v4 + 6)).bind fun x14 => zif (zob q8.2 v2 12) <| (f_X12_feed N v2 (((x9.toInt64) <<< ((32 : Int32).toInt64 &&& 63)) ||| ((x10.toInt64) &&& 4294967295)) (((x11.toInt64) <<< ((32 : Int32).toInt64 &&& 63)) ||| ((x12.toInt64) &&& 4294967295)) (((x13.toInt64) <<< ((32 : Int32).toInt64 &&& 63)) ||| ((x14.toInt64) &&& 4294967295)) q8.2).bind fun q16 => some q16.2
set_option maxRecDepth 100000 in
set_option maxHeartbeats 4000000 in
theorem kc_L_6 {N d mc ms v0 v1 v2 v3 : Nat} {v4 : Int32} {h h2 : zH} {vv : Option Value} {hh : zH} (hd0 : 3 ≤ d) (H : c_L_6 N v0 v1 v2 v4 h = some h2) (K : zW yL_law cL_law 7 (some .boolean) d mc ms 1498 [(0, .ref v0), (1, .ref v1), (2, .ref v2), (3, .ref v3), (4, .int v4)] [] h2 vv hh) : zW yL_law cL_law 7 (some .boolean) d (mc + 0) (ms + 0) 505 [(0, .ref v0), (1, .ref v1), (2, .ref v2), (3, .ref v3), (4, .int v4)] [] h vv hh := by
  unfold c_L_6 at H
  refine z_aload_n (pc := 505) 1 dL_law_505 rfl rfl ?_
  refine z_aload_n (pc := 506) 0 dL_law_506 rfl rfl ?_
  refine z_iload (pc := 507) 4 dL_law_507 rfl ?_
  refine z_iconst (pc := 509) (x := 1) dL_law_509 zc_iconst_1 ?_
  refine z_iadd (pc := 510) dL_law_510 ?_
  obtain ⟨x1, ex1, H⟩ := zbind H
  refine z_iaload (pc := 511) dL_law_511 ex1 ?_
  refine z_i2l (pc := 512) dL_law_512 ?_
  refine z_bipush (pc := 513) (x := 32) dL_law_513 zc_bipush_32 ?_
  refine z_lshl (pc := 515) dL_law_515 ?_
  refine z_aload_n (pc := 516) 0 dL_law_516 rfl rfl ?_
  refine z_iload (pc := 517) 4 dL_law_517 rfl ?_
  refine z_iconst (pc := 519) (x := 2) dL_law_519 zc_iconst_2 ?_
  refine z_iadd (pc := 520) dL_law_520 ?_
  obtain ⟨x2, ex2, H⟩ := zbind H
  refine z_iaload (pc := 521) dL_law_521 ex2 ?_
  refine z_i2l (pc := 522) dL_law_522 ?_
  refine z_ldc2 (pc := 523) (x := 4294967295) dL_law_523 kl_L_54 ?_
  refine z_land (pc := 526) dL_law_526 ?_
  refine z_lor (pc := 527) dL_law_527 ?_
  refine z_aload_n (pc := 528) 0 dL_law_528 rfl rfl ?_
  refine z_iload (pc := 529) 4 dL_law_529 rfl ?_
  refine z_iconst (pc := 531) (x := 3) dL_law_531 zc_iconst_3 ?_
  refine z_iadd (pc := 532) dL_law_532 ?_
  obtain ⟨x3, ex3, H⟩ := zbind H
  refine z_iaload (pc := 533) dL_law_533 ex3 ?_
  refine z_i2l (pc := 534) dL_law_534 ?_
  refine z_bipush (pc := 535) (x := 32) dL_law_535 zc_bipush_32 ?_
  refine z_lshl (pc := 537) dL_law_537 ?_
  refine z_aload_n (pc := 538) 0 dL_law_538 rfl rfl ?_
  refine z_iload (pc := 539) 4 dL_law_539 rfl ?_
  refine z_iconst (pc := 541) (x := 4) dL_law_541 zc_iconst_4 ?_
  refine z_iadd (pc := 542) dL_law_542 ?_
  obtain ⟨x4, ex4, H⟩ := zbind H
  refine z_iaload (pc := 543) dL_law_543 ex4 ?_
  refine z_i2l (pc := 544) dL_law_544 ?_
  refine z_ldc2 (pc := 545) (x := 4294967295) dL_law_545 kl_L_54 ?_
  refine z_land (pc := 548) dL_law_548 ?_
  refine z_lor (pc := 549) dL_law_549 ?_
  refine z_aload_n (pc := 550) 0 dL_law_550 rfl rfl ?_
  refine z_iload (pc := 551) 4 dL_law_551 rfl ?_
  refine z_iconst (pc := 553) (x := 5) dL_law_553 zc_iconst_5 ?_
  refine z_iadd (pc := 554) dL_law_554 ?_
  obtain ⟨x5, ex5, H⟩ := zbind H
  refine z_iaload (pc := 555) dL_law_555 ex5 ?_
  refine z_i2l (pc := 556) dL_law_556 ?_
  refine z_bipush (pc := 557) (x := 32) dL_law_557 zc_bipush_32 ?_
  refine z_lshl (pc := 559) dL_law_559 ?_
  refine z_aload_n (pc := 560) 0 dL_law_560 rfl rfl ?_
  refine z_iload (pc := 561) 4 dL_law_561 rfl ?_
  refine z_bipush (pc := 563) (x := 6) dL_law_563 zc_bipush_6 ?_
  refine z_iadd (pc := 565) dL_law_565 ?_
  obtain ⟨x6, ex6, H⟩ := zbind H
  refine z_iaload (pc := 566) dL_law_566 ex6 ?_
  refine z_i2l (pc := 567) dL_law_567 ?_
  refine z_ldc2 (pc := 568) (x := 4294967295) dL_law_568 kl_L_54 ?_
  refine z_land (pc := 571) dL_law_571 ?_
  refine z_lor (pc := 572) dL_law_572 ?_
  obtain ⟨z7, H⟩ := zifE H
  obtain ⟨q8, eq8, H⟩ := zbind H
  refine z_callV (pc := 573) (mc := mc) (ms := ms) (d' := 2) (mc' := 0) (ms' := 0) (rest := []) [.long (((x1.toInt64) <<< ((32 : Int32).toInt64 &&& 63)) ||| ((x2.toInt64) &&& 4294967295)), .long (((x3.toInt64) <<< ((32 : Int32).toInt64 &&& 63)) ||| ((x4.toInt64) &&& 4294967295)), .long (((x5.toInt64) <<< ((32 : Int32).toInt64 &&& 63)) ||| ((x6.toInt64) &&& 4294967295))] dL_law_573 md_X11_feed ml_L_56 im_X11_feed se_X11_feed rfl z7 rfl rfl (Nat.le_of_ble_eq_true rfl) (by omega) (k_X11_feed eq8) ?_
  refine z_pop (pc := 576) dL_law_576 rfl ?_
  refine z_aload_n (pc := 577) 2 dL_law_577 rfl rfl ?_
  refine z_aload_n (pc := 578) 0 dL_law_578 rfl rfl ?_
  refine z_iload (pc := 579) 4 dL_law_579 rfl ?_
  refine z_iconst (pc := 581) (x := 1) dL_law_581 zc_iconst_1 ?_
  refine z_iadd (pc := 582) dL_law_582 ?_
  obtain ⟨x9, ex9, H⟩ := zbind H
  refine z_iaload (pc := 583) dL_law_583 ex9 ?_
  refine z_i2l (pc := 584) dL_law_584 ?_
  refine z_bipush (pc := 585) (x := 32) dL_law_585 zc_bipush_32 ?_
  refine z_lshl (pc := 587) dL_law_587 ?_
  refine z_aload_n (pc := 588) 0 dL_law_588 rfl rfl ?_
  refine z_iload (pc := 589) 4 dL_law_589 rfl ?_
  refine z_iconst (pc := 591) (x := 2) dL_law_591 zc_iconst_2 ?_
  refine z_iadd (pc := 592) dL_law_592 ?_
  obtain ⟨x10, ex10, H⟩ := zbind H
  refine z_iaload (pc := 593) dL_law_593 ex10 ?_
  refine z_i2l (pc := 594) dL_law_594 ?_
  refine z_ldc2 (pc := 595) (x := 4294967295) dL_law_595 kl_L_54 ?_
  refine z_land (pc := 598) dL_law_598 ?_
  refine z_lor (pc := 599) dL_law_599 ?_
  refine z_aload_n (pc := 600) 0 dL_law_600 rfl rfl ?_
  refine z_iload (pc := 601) 4 dL_law_601 rfl ?_
  refine z_iconst (pc := 603) (x := 3) dL_law_603 zc_iconst_3 ?_
  refine z_iadd (pc := 604) dL_law_604 ?_
  obtain ⟨x11, ex11, H⟩ := zbind H
  refine z_iaload (pc := 605) dL_law_605 ex11 ?_
  refine z_i2l (pc := 606) dL_law_606 ?_
  refine z_bipush (pc := 607) (x := 32) dL_law_607 zc_bipush_32 ?_
  refine z_lshl (pc := 609) dL_law_609 ?_
  refine z_aload_n (pc := 610) 0 dL_law_610 rfl rfl ?_
  refine z_iload (pc := 611) 4 dL_law_611 rfl ?_
  refine z_iconst (pc := 613) (x := 4) dL_law_613 zc_iconst_4 ?_
  refine z_iadd (pc := 614) dL_law_614 ?_
  obtain ⟨x12, ex12, H⟩ := zbind H
  refine z_iaload (pc := 615) dL_law_615 ex12 ?_
  refine z_i2l (pc := 616) dL_law_616 ?_
  refine z_ldc2 (pc := 617) (x := 4294967295) dL_law_617 kl_L_54 ?_
  refine z_land (pc := 620) dL_law_620 ?_
  refine z_lor (pc := 621) dL_law_621 ?_
  refine z_aload_n (pc := 622) 0 dL_law_622 rfl rfl ?_
  refine z_iload (pc := 623) 4 dL_law_623 rfl ?_
  refine z_iconst (pc := 625) (x := 5) dL_law_625 zc_iconst_5 ?_
  refine z_iadd (pc := 626) dL_law_626 ?_
  obtain ⟨x13, ex13, H⟩ := zbind H
  refine z_iaload (pc := 627) dL_law_627 ex13 ?_
  refine z_i2l (pc := 628) dL_law_628 ?_
  refine z_bipush (pc := 629) (x := 32) dL_law_629 zc_bipush_32 ?_
  refine z_lshl (pc := 631) dL_law_631 ?_
  refine z_aload_n (pc := 632) 0 dL_law_632 rfl rfl ?_
  refine z_iload (pc := 633) 4 dL_law_633 rfl ?_
  refine z_bipush (pc := 635) (x := 6) dL_law_635 zc_bipush_6 ?_
  refine z_iadd (pc := 637) dL_law_637 ?_
  obtain ⟨x14, ex14, H⟩ := zbind H
  refine z_iaload (pc := 638) dL_law_638 ex14 ?_
  refine z_i2l (pc := 639) dL_law_639 ?_
  refine z_ldc2 (pc := 640) (x := 4294967295) dL_law_640 kl_L_54 ?_
  refine z_land (pc := 643) dL_law_643 ?_
  refine z_lor (pc := 644) dL_law_644 ?_
  obtain ⟨z15, H⟩ := zifE H
  obtain ⟨q16, eq16, H⟩ := zbind H
  refine z_callV (pc := 645) (mc := mc) (ms := ms) (d' := 1) (mc' := 0) (ms' := 0) (rest := []) [.long (((x9.toInt64) <<< ((32 : Int32).toInt64 &&& 63)) ||| ((x10.toInt64) &&& 4294967295)), .long (((x11.toInt64) <<< ((32 : Int32).toInt64 &&& 63)) ||| ((x12.toInt64) &&& 4294967295)), .long (((x13.toInt64) <<< ((32 : Int32).toInt64 &&& 63)) ||| ((x14.toInt64) &&& 4294967295))] dL_law_645 md_X12_feed ml_L_60 im_X12_feed se_X12_feed rfl z15 rfl rfl (Nat.le_of_ble_eq_true rfl) (by omega) (k_X12_feed eq16) ?_
  refine z_pop (pc := 648) dL_law_648 rfl ?_
  refine z_goto (pc := 649) 1498 dL_law_649 (by decide) ?_
  cases H
  exact z_mono (Nat.le_refl _) (by omega) (by omega) (z_sub [0, 1, 2, 3, 4] rfl K)
def c_L_7 (N v0 v1 v2 : Nat) (v4 : Int32) (h : zH) : Option zH := (aI h v0 (v4 + 1)).bind fun x1 => zif (zob h v1 11) <| (f_X11_law N v1 x1 h).bind fun q3 => (aI q3.2 v0 (v4 + 1)).bind fun x4 => zif (zob q3.2 v2 12) <| (f_X12_law N v2 x4 q3.2).bind fun q6 => some q6.2
set_option maxRecDepth 100000 in
set_option maxHeartbeats 4000000 in
theorem kc_L_7 {N d mc ms v0 v1 v2 v3 : Nat} {v4 : Int32} {h h2 : zH} {vv : Option Value} {hh : zH} (hd0 : 50 ≤ d) (H : c_L_7 N v0 v1 v2 v4 h = some h2) (K : zW yL_law cL_law 7 (some .boolean) d mc ms 1498 [(0, .ref v0), (1, .ref v1), (2, .ref v2), (3, .ref v3), (4, .int v4)] [] h2 vv hh) : zW yL_law cL_law 7 (some .boolean) d (mc + 2) (ms + 1003) 652 [(0, .ref v0), (1, .ref v1), (2, .ref v2), (3, .ref v3), (4, .int v4)] [] h vv hh := by
  unfold c_L_7 at H
  refine z_aload_n (pc := 652) 1 dL_law_652 rfl rfl ?_
  refine z_aload_n (pc := 653) 0 dL_law_653 rfl rfl ?_
  refine z_iload (pc := 654) 4 dL_law_654 rfl ?_
  refine z_iconst (pc := 656) (x := 1) dL_law_656 zc_iconst_1 ?_
  refine z_iadd (pc := 657) dL_law_657 ?_
  obtain ⟨x1, ex1, H⟩ := zbind H
  refine z_iaload (pc := 658) dL_law_658 ex1 ?_
  obtain ⟨z2, H⟩ := zifE H
  obtain ⟨q3, eq3, H⟩ := zbind H
  refine z_callV (pc := 659) (mc := mc) (ms := ms) (d' := 9) (mc' := 2) (ms' := 1003) (rest := []) [.int x1] dL_law_659 md_X11_law ml_L_61 im_X11_law se_X11_law rfl z2 rfl rfl (Nat.le_of_ble_eq_true rfl) (by omega) (k_X11_law eq3) ?_
  refine z_pop (pc := 662) dL_law_662 rfl ?_
  refine z_aload_n (pc := 663) 2 dL_law_663 rfl rfl ?_
  refine z_aload_n (pc := 664) 0 dL_law_664 rfl rfl ?_
  refine z_iload (pc := 665) 4 dL_law_665 rfl ?_
  refine z_iconst (pc := 667) (x := 1) dL_law_667 zc_iconst_1 ?_
  refine z_iadd (pc := 668) dL_law_668 ?_
  obtain ⟨x4, ex4, H⟩ := zbind H
  refine z_iaload (pc := 669) dL_law_669 ex4 ?_
  obtain ⟨z5, H⟩ := zifE H
  obtain ⟨q6, eq6, H⟩ := zbind H
  refine z_callV (pc := 670) (mc := mc) (ms := ms) (d' := 49) (mc' := 0) (ms' := 0) (rest := []) [.int x4] dL_law_670 md_X12_law ml_L_64 im_X12_law se_X12_law rfl z5 rfl rfl (Nat.le_of_ble_eq_true rfl) (by omega) (k_X12_law eq6) ?_
  refine z_pop (pc := 673) dL_law_673 rfl ?_
  refine z_goto (pc := 674) 1498 dL_law_674 (by decide) ?_
  cases H
  exact z_mono (Nat.le_refl _) (by omega) (by omega) (z_sub [0, 1, 2, 3, 4] rfl K)
def c_L_8 (N v0 v1 v2 : Nat) (v4 : Int32) (h : zH) : Option zH := (aI h v0 (v4 + 1)).bind fun x1 => (aI h v0 (v4 + 2)).bind fun x2 => (aI h v0 (v4 + 3)).bind fun x3 => zif (zob h v1 11) <| (f_X11_whose N v1 x1 x2 x3 h).bind fun q5 => (aI q5.2 v0 (v4 + 1)).bind fun x6 => (aI q5.2 v0 (v4 + 2)).bind fun x7 => (aI q5.2 v0 (v4 + 3)).bind fun x8 => zif (zob q5.2 v2 12) <| (f_X12_whose N v2 x6 x7 x8 q5.2).bind fun q10 => some q10.2
set_option maxRecDepth 100000 in
set_option maxHeartbeats 4000000 in
theorem kc_L_8 {N d mc ms v0 v1 v2 v3 : Nat} {v4 : Int32} {h h2 : zH} {vv : Option Value} {hh : zH} (hd0 : 8 ≤ d) (H : c_L_8 N v0 v1 v2 v4 h = some h2) (K : zW yL_law cL_law 7 (some .boolean) d mc ms 1498 [(0, .ref v0), (1, .ref v1), (2, .ref v2), (3, .ref v3), (4, .int v4)] [] h2 vv hh) : zW yL_law cL_law 7 (some .boolean) d (mc + 0) (ms + 0) 677 [(0, .ref v0), (1, .ref v1), (2, .ref v2), (3, .ref v3), (4, .int v4)] [] h vv hh := by
  unfold c_L_8 at H
  refine z_aload_n (pc := 677) 1 dL_law_677 rfl rfl ?_
  refine z_aload_n (pc := 678) 0 dL_law_678 rfl rfl ?_
  refine z_iload (pc := 679) 4 dL_law_679 rfl ?_
  refine z_iconst (pc := 681) (x := 1) dL_law_681 zc_iconst_1 ?_
  refine z_iadd (pc := 682) dL_law_682 ?_
  obtain ⟨x1, ex1, H⟩ := zbind H
  refine z_iaload (pc := 683) dL_law_683 ex1 ?_
  refine z_aload_n (pc := 684) 0 dL_law_684 rfl rfl ?_
  refine z_iload (pc := 685) 4 dL_law_685 rfl ?_
  refine z_iconst (pc := 687) (x := 2) dL_law_687 zc_iconst_2 ?_
  refine z_iadd (pc := 688) dL_law_688 ?_
  obtain ⟨x2, ex2, H⟩ := zbind H
  refine z_iaload (pc := 689) dL_law_689 ex2 ?_
  refine z_aload_n (pc := 690) 0 dL_law_690 rfl rfl ?_
  refine z_iload (pc := 691) 4 dL_law_691 rfl ?_
  refine z_iconst (pc := 693) (x := 3) dL_law_693 zc_iconst_3 ?_
  refine z_iadd (pc := 694) dL_law_694 ?_
  obtain ⟨x3, ex3, H⟩ := zbind H
  refine z_iaload (pc := 695) dL_law_695 ex3 ?_
  obtain ⟨z4, H⟩ := zifE H
  obtain ⟨q5, eq5, H⟩ := zbind H
  refine z_callV (pc := 696) (mc := mc) (ms := ms) (d' := 7) (mc' := 0) (ms' := 0) (rest := []) [.int x1, .int x2, .int x3] dL_law_696 md_X11_whose ml_L_65 im_X11_whose se_X11_whose rfl z4 rfl rfl (Nat.le_of_ble_eq_true rfl) (by omega) (k_X11_whose eq5) ?_
  refine z_pop (pc := 699) dL_law_699 rfl ?_
  refine z_aload_n (pc := 700) 2 dL_law_700 rfl rfl ?_
  refine z_aload_n (pc := 701) 0 dL_law_701 rfl rfl ?_
  refine z_iload (pc := 702) 4 dL_law_702 rfl ?_
  refine z_iconst (pc := 704) (x := 1) dL_law_704 zc_iconst_1 ?_
  refine z_iadd (pc := 705) dL_law_705 ?_
  obtain ⟨x6, ex6, H⟩ := zbind H
  refine z_iaload (pc := 706) dL_law_706 ex6 ?_
  refine z_aload_n (pc := 707) 0 dL_law_707 rfl rfl ?_
  refine z_iload (pc := 708) 4 dL_law_708 rfl ?_
  refine z_iconst (pc := 710) (x := 2) dL_law_710 zc_iconst_2 ?_
  refine z_iadd (pc := 711) dL_law_711 ?_
  obtain ⟨x7, ex7, H⟩ := zbind H
  refine z_iaload (pc := 712) dL_law_712 ex7 ?_
  refine z_aload_n (pc := 713) 0 dL_law_713 rfl rfl ?_
  refine z_iload (pc := 714) 4 dL_law_714 rfl ?_
  refine z_iconst (pc := 716) (x := 3) dL_law_716 zc_iconst_3 ?_
  refine z_iadd (pc := 717) dL_law_717 ?_
  obtain ⟨x8, ex8, H⟩ := zbind H
  refine z_iaload (pc := 718) dL_law_718 ex8 ?_
  obtain ⟨z9, H⟩ := zifE H
  obtain ⟨q10, eq10, H⟩ := zbind H
  refine z_callV (pc := 719) (mc := mc) (ms := ms) (d' := 4) (mc' := 0) (ms' := 0) (rest := []) [.int x6, .int x7, .int x8] dL_law_719 md_X12_whose ml_L_68 im_X12_whose se_X12_whose rfl z9 rfl rfl (Nat.le_of_ble_eq_true rfl) (by omega) (k_X12_whose eq10) ?_
  refine z_pop (pc := 722) dL_law_722 rfl ?_
  refine z_goto (pc := 723) 1498 dL_law_723 (by decide) ?_
  cases H
  exact z_mono (Nat.le_refl _) (by omega) (by omega) (z_sub [0, 1, 2, 3, 4] rfl K)
def c_L_9 (N v0 v1 v2 : Nat) (v4 : Int32) (h : zH) : Option zH := (aI h v0 (v4 + 1)).bind fun x1 => (aI h v0 (v4 + 2)).bind fun x2 => zif (zob h v1 11) <| (f_X11_changes N v1 x1 x2 h).bind fun q4 => (aI q4.2 v0 (v4 + 1)).bind fun x5 => (aI q4.2 v0 (v4 + 2)).bind fun x6 => zif (zob q4.2 v2 12) <| (f_X12_changes N v2 x5 x6 q4.2).bind fun q8 => some q8.2
set_option maxRecDepth 100000 in
set_option maxHeartbeats 4000000 in
theorem kc_L_9 {N d mc ms v0 v1 v2 v3 : Nat} {v4 : Int32} {h h2 : zH} {vv : Option Value} {hh : zH} (hd0 : 8 ≤ d) (H : c_L_9 N v0 v1 v2 v4 h = some h2) (K : zW yL_law cL_law 7 (some .boolean) d mc ms 1498 [(0, .ref v0), (1, .ref v1), (2, .ref v2), (3, .ref v3), (4, .int v4)] [] h2 vv hh) : zW yL_law cL_law 7 (some .boolean) d (mc + 0) (ms + 0) 726 [(0, .ref v0), (1, .ref v1), (2, .ref v2), (3, .ref v3), (4, .int v4)] [] h vv hh := by
  unfold c_L_9 at H
  refine z_aload_n (pc := 726) 1 dL_law_726 rfl rfl ?_
  refine z_aload_n (pc := 727) 0 dL_law_727 rfl rfl ?_
  refine z_iload (pc := 728) 4 dL_law_728 rfl ?_
  refine z_iconst (pc := 730) (x := 1) dL_law_730 zc_iconst_1 ?_
  refine z_iadd (pc := 731) dL_law_731 ?_
  obtain ⟨x1, ex1, H⟩ := zbind H
  refine z_iaload (pc := 732) dL_law_732 ex1 ?_
  refine z_aload_n (pc := 733) 0 dL_law_733 rfl rfl ?_
  refine z_iload (pc := 734) 4 dL_law_734 rfl ?_
  refine z_iconst (pc := 736) (x := 2) dL_law_736 zc_iconst_2 ?_
  refine z_iadd (pc := 737) dL_law_737 ?_
  obtain ⟨x2, ex2, H⟩ := zbind H
  refine z_iaload (pc := 738) dL_law_738 ex2 ?_
  obtain ⟨z3, H⟩ := zifE H
  obtain ⟨q4, eq4, H⟩ := zbind H
  refine z_callV (pc := 739) (mc := mc) (ms := ms) (d' := 7) (mc' := 0) (ms' := 0) (rest := []) [.int x1, .int x2] dL_law_739 md_X11_changes ml_L_69 im_X11_changes se_X11_changes rfl z3 rfl rfl (Nat.le_of_ble_eq_true rfl) (by omega) (k_X11_changes eq4) ?_
  refine z_pop (pc := 742) dL_law_742 rfl ?_
  refine z_aload_n (pc := 743) 2 dL_law_743 rfl rfl ?_
  refine z_aload_n (pc := 744) 0 dL_law_744 rfl rfl ?_
  refine z_iload (pc := 745) 4 dL_law_745 rfl ?_
  refine z_iconst (pc := 747) (x := 1) dL_law_747 zc_iconst_1 ?_
  refine z_iadd (pc := 748) dL_law_748 ?_
  obtain ⟨x5, ex5, H⟩ := zbind H
  refine z_iaload (pc := 749) dL_law_749 ex5 ?_
  refine z_aload_n (pc := 750) 0 dL_law_750 rfl rfl ?_
  refine z_iload (pc := 751) 4 dL_law_751 rfl ?_
  refine z_iconst (pc := 753) (x := 2) dL_law_753 zc_iconst_2 ?_
  refine z_iadd (pc := 754) dL_law_754 ?_
  obtain ⟨x6, ex6, H⟩ := zbind H
  refine z_iaload (pc := 755) dL_law_755 ex6 ?_
  obtain ⟨z7, H⟩ := zifE H
  obtain ⟨q8, eq8, H⟩ := zbind H
  refine z_callV (pc := 756) (mc := mc) (ms := ms) (d' := 4) (mc' := 0) (ms' := 0) (rest := []) [.int x5, .int x6] dL_law_756 md_X12_changes ml_L_72 im_X12_changes se_X12_changes rfl z7 rfl rfl (Nat.le_of_ble_eq_true rfl) (by omega) (k_X12_changes eq8) ?_
  refine z_pop (pc := 759) dL_law_759 rfl ?_
  refine z_goto (pc := 760) 1498 dL_law_760 (by decide) ?_
  cases H
  exact z_mono (Nat.le_refl _) (by omega) (by omega) (z_sub [0, 1, 2, 3, 4] rfl K)
def c_L_10 (N v0 v1 v2 : Nat) (v4 : Int32) (h : zH) : Option zH := (aI h v0 (v4 + 1)).bind fun x1 => (aI h v0 (v4 + 2)).bind fun x2 => (if x2 = 0 then (some 0) else (some 1) : Option (Int32)).bind fun m3 => zif (zob h v1 11) <| (f_X11_ruling N v1 x1 m3 h).bind fun q6 => (aI q6.2 v0 (v4 + 1)).bind fun x7 => (aI q6.2 v0 (v4 + 2)).bind fun x8 => (if x8 = 0 then (some 0) else (some 1) : Option (Int32)).bind fun m9 => zif (zob q6.2 v2 12) <| (f_X12_ruling N v2 x7 m9 q6.2).bind fun q12 => some q12.2
set_option maxRecDepth 100000 in
set_option maxHeartbeats 4000000 in
theorem kc_L_10 {N d mc ms v0 v1 v2 v3 : Nat} {v4 : Int32} {h h2 : zH} {vv : Option Value} {hh : zH} (hd0 : 2 ≤ d) (H : c_L_10 N v0 v1 v2 v4 h = some h2) (K : zW yL_law cL_law 7 (some .boolean) d mc ms 1498 [(0, .ref v0), (1, .ref v1), (2, .ref v2), (3, .ref v3), (4, .int v4)] [] h2 vv hh) : zW yL_law cL_law 7 (some .boolean) d (mc + 0) (ms + 0) 763 [(0, .ref v0), (1, .ref v1), (2, .ref v2), (3, .ref v3), (4, .int v4)] [] h vv hh := by
  unfold c_L_10 at H
  refine z_aload_n (pc := 763) 1 dL_law_763 rfl rfl ?_
  refine z_aload_n (pc := 764) 0 dL_law_764 rfl rfl ?_
  refine z_iload (pc := 765) 4 dL_law_765 rfl ?_
  refine z_iconst (pc := 767) (x := 1) dL_law_767 zc_iconst_1 ?_
  refine z_iadd (pc := 768) dL_law_768 ?_
  obtain ⟨x1, ex1, H⟩ := zbind H
  refine z_iaload (pc := 769) dL_law_769 ex1 ?_
  refine z_aload_n (pc := 770) 0 dL_law_770 rfl rfl ?_
  refine z_iload (pc := 771) 4 dL_law_771 rfl ?_
  refine z_iconst (pc := 773) (x := 2) dL_law_773 zc_iconst_2 ?_
  refine z_iadd (pc := 774) dL_law_774 ?_
  obtain ⟨x2, ex2, H⟩ := zbind H
  refine z_iaload (pc := 775) dL_law_775 ex2 ?_
  obtain ⟨m3, em3, H⟩ := zbind H
  have Jm3 : zW yL_law cL_law 7 (some .boolean) d mc ms 784 [(0, .ref v0), (1, .ref v1), (2, .ref v2), (3, .ref v3), (4, .int v4)] [.int m3, .int x1, .ref v1] h vv hh := by
    obtain ⟨z5, H⟩ := zifE H
    obtain ⟨q6, eq6, H⟩ := zbind H
    refine z_callV (pc := 784) (mc := mc) (ms := ms) (d' := 1) (mc' := 0) (ms' := 0) (rest := []) [.int x1, .int m3] dL_law_784 md_X11_ruling ml_L_73 im_X11_ruling se_X11_ruling rfl z5 rfl rfl (Nat.le_of_ble_eq_true rfl) (by omega) (k_X11_ruling eq6) ?_
    refine z_pop (pc := 787) dL_law_787 rfl ?_
    refine z_aload_n (pc := 788) 2 dL_law_788 rfl rfl ?_
    refine z_aload_n (pc := 789) 0 dL_law_789 rfl rfl ?_
    refine z_iload (pc := 790) 4 dL_law_790 rfl ?_
    refine z_iconst (pc := 792) (x := 1) dL_law_792 zc_iconst_1 ?_
    refine z_iadd (pc := 793) dL_law_793 ?_
    obtain ⟨x7, ex7, H⟩ := zbind H
    refine z_iaload (pc := 794) dL_law_794 ex7 ?_
    refine z_aload_n (pc := 795) 0 dL_law_795 rfl rfl ?_
    refine z_iload (pc := 796) 4 dL_law_796 rfl ?_
    refine z_iconst (pc := 798) (x := 2) dL_law_798 zc_iconst_2 ?_
    refine z_iadd (pc := 799) dL_law_799 ?_
    obtain ⟨x8, ex8, H⟩ := zbind H
    refine z_iaload (pc := 800) dL_law_800 ex8 ?_
    obtain ⟨m9, em9, H⟩ := zbind H
    have Jm9 : zW yL_law cL_law 7 (some .boolean) d mc ms 809 [(0, .ref v0), (1, .ref v1), (2, .ref v2), (3, .ref v3), (4, .int v4)] [.int m9, .int x7, .ref v2] q6.2 vv hh := by
      obtain ⟨z11, H⟩ := zifE H
      obtain ⟨q12, eq12, H⟩ := zbind H
      refine z_callV (pc := 809) (mc := mc) (ms := ms) (d' := 1) (mc' := 0) (ms' := 0) (rest := []) [.int x7, .int m9] dL_law_809 md_X12_ruling ml_L_77 im_X12_ruling se_X12_ruling rfl z11 rfl rfl (Nat.le_of_ble_eq_true rfl) (by omega) (k_X12_ruling eq12) ?_
      refine z_pop (pc := 812) dL_law_812 rfl ?_
      refine z_goto (pc := 813) 1498 dL_law_813 (by decide) ?_
      cases H
      exact z_mono (Nat.le_refl _) (by omega) (by omega) (z_sub [0, 1, 2, 3, 4] rfl K)
    refine z_if_eq (pc := 801) 808 dL_law_801 (by decide) (fun c10 => ?_) (fun c10 => ?_)
    · rw [if_pos c10] at em9
      refine z_iconst (pc := 808) (x := 0) dL_law_808 zc_iconst_0 ?_
      cases em9
      exact z_sub [0, 1, 2, 3, 4] rfl Jm9
    · rw [if_neg c10] at em9
      refine z_iconst (pc := 804) (x := 1) dL_law_804 zc_iconst_1 ?_
      refine z_goto (pc := 805) 809 dL_law_805 (by decide) ?_
      cases em9
      exact z_sub [0, 1, 2, 3, 4] rfl Jm9
  refine z_if_eq (pc := 776) 783 dL_law_776 (by decide) (fun c4 => ?_) (fun c4 => ?_)
  · rw [if_pos c4] at em3
    refine z_iconst (pc := 783) (x := 0) dL_law_783 zc_iconst_0 ?_
    cases em3
    exact z_sub [0, 1, 2, 3, 4] rfl Jm3
  · rw [if_neg c4] at em3
    refine z_iconst (pc := 779) (x := 1) dL_law_779 zc_iconst_1 ?_
    refine z_goto (pc := 780) 784 dL_law_780 (by decide) ?_
    cases em3
    exact z_sub [0, 1, 2, 3, 4] rfl Jm3
def c_L_11 (N v0 v1 v2 : Nat) (v4 : Int32) (h : zH) : Option zH := (aI h v0 (v4 + 1)).bind fun x1 => zif (zob h v1 11) <| (f_X11_customs N v1 x1 h).bind fun q3 => (aI q3.2 v0 (v4 + 1)).bind fun x4 => zif (zob q3.2 v2 12) <| (f_X12_customs N v2 x4 q3.2).bind fun q6 => some q6.2
set_option maxRecDepth 100000 in
set_option maxHeartbeats 4000000 in
theorem kc_L_11 {N d mc ms v0 v1 v2 v3 : Nat} {v4 : Int32} {h h2 : zH} {vv : Option Value} {hh : zH} (hd0 : 7 ≤ d) (H : c_L_11 N v0 v1 v2 v4 h = some h2) (K : zW yL_law cL_law 7 (some .boolean) d mc ms 1498 [(0, .ref v0), (1, .ref v1), (2, .ref v2), (3, .ref v3), (4, .int v4)] [] h2 vv hh) : zW yL_law cL_law 7 (some .boolean) d (mc + 0) (ms + 0) 816 [(0, .ref v0), (1, .ref v1), (2, .ref v2), (3, .ref v3), (4, .int v4)] [] h vv hh := by
  unfold c_L_11 at H
  refine z_aload_n (pc := 816) 1 dL_law_816 rfl rfl ?_
  refine z_aload_n (pc := 817) 0 dL_law_817 rfl rfl ?_
  refine z_iload (pc := 818) 4 dL_law_818 rfl ?_
  refine z_iconst (pc := 820) (x := 1) dL_law_820 zc_iconst_1 ?_
  refine z_iadd (pc := 821) dL_law_821 ?_
  obtain ⟨x1, ex1, H⟩ := zbind H
  refine z_iaload (pc := 822) dL_law_822 ex1 ?_
  obtain ⟨z2, H⟩ := zifE H
  obtain ⟨q3, eq3, H⟩ := zbind H
  refine z_callV (pc := 823) (mc := mc) (ms := ms) (d' := 6) (mc' := 0) (ms' := 0) (rest := []) [.int x1] dL_law_823 md_X11_customs ml_L_78 im_X11_customs se_X11_customs rfl z2 rfl rfl (Nat.le_of_ble_eq_true rfl) (by omega) (k_X11_customs eq3) ?_
  refine z_pop (pc := 826) dL_law_826 rfl ?_
  refine z_aload_n (pc := 827) 2 dL_law_827 rfl rfl ?_
  refine z_aload_n (pc := 828) 0 dL_law_828 rfl rfl ?_
  refine z_iload (pc := 829) 4 dL_law_829 rfl ?_
  refine z_iconst (pc := 831) (x := 1) dL_law_831 zc_iconst_1 ?_
  refine z_iadd (pc := 832) dL_law_832 ?_
  obtain ⟨x4, ex4, H⟩ := zbind H
  refine z_iaload (pc := 833) dL_law_833 ex4 ?_
  obtain ⟨z5, H⟩ := zifE H
  obtain ⟨q6, eq6, H⟩ := zbind H
  refine z_callV (pc := 834) (mc := mc) (ms := ms) (d' := 4) (mc' := 0) (ms' := 0) (rest := []) [.int x4] dL_law_834 md_X12_customs ml_L_81 im_X12_customs se_X12_customs rfl z5 rfl rfl (Nat.le_of_ble_eq_true rfl) (by omega) (k_X12_customs eq6) ?_
  refine z_pop (pc := 837) dL_law_837 rfl ?_
  refine z_goto (pc := 838) 1498 dL_law_838 (by decide) ?_
  cases H
  exact z_mono (Nat.le_refl _) (by omega) (by omega) (z_sub [0, 1, 2, 3, 4] rfl K)
def c_L_12 (N v0 v1 v2 : Nat) (v4 : Int32) (h : zH) : Option zH := (aI h v0 (v4 + 1)).bind fun x1 => (aI h v0 (v4 + 2)).bind fun x2 => zif (zob h v1 11) <| (f_X11_held N v1 x1 x2 h).bind fun q4 => (aI q4.2 v0 (v4 + 1)).bind fun x5 => (aI q4.2 v0 (v4 + 2)).bind fun x6 => zif (zob q4.2 v2 12) <| (f_X12_held N v2 x5 x6 q4.2).bind fun q8 => some q8.2
set_option maxRecDepth 100000 in
set_option maxHeartbeats 4000000 in
theorem kc_L_12 {N d mc ms v0 v1 v2 v3 : Nat} {v4 : Int32} {h h2 : zH} {vv : Option Value} {hh : zH} (hd0 : 7 ≤ d) (H : c_L_12 N v0 v1 v2 v4 h = some h2) (K : zW yL_law cL_law 7 (some .boolean) d mc ms 1498 [(0, .ref v0), (1, .ref v1), (2, .ref v2), (3, .ref v3), (4, .int v4)] [] h2 vv hh) : zW yL_law cL_law 7 (some .boolean) d (mc + 0) (ms + 0) 841 [(0, .ref v0), (1, .ref v1), (2, .ref v2), (3, .ref v3), (4, .int v4)] [] h vv hh := by
  unfold c_L_12 at H
  refine z_aload_n (pc := 841) 1 dL_law_841 rfl rfl ?_
  refine z_aload_n (pc := 842) 0 dL_law_842 rfl rfl ?_
  refine z_iload (pc := 843) 4 dL_law_843 rfl ?_
  refine z_iconst (pc := 845) (x := 1) dL_law_845 zc_iconst_1 ?_
  refine z_iadd (pc := 846) dL_law_846 ?_
  obtain ⟨x1, ex1, H⟩ := zbind H
  refine z_iaload (pc := 847) dL_law_847 ex1 ?_
  refine z_aload_n (pc := 848) 0 dL_law_848 rfl rfl ?_
  refine z_iload (pc := 849) 4 dL_law_849 rfl ?_
  refine z_iconst (pc := 851) (x := 2) dL_law_851 zc_iconst_2 ?_
  refine z_iadd (pc := 852) dL_law_852 ?_
  obtain ⟨x2, ex2, H⟩ := zbind H
  refine z_iaload (pc := 853) dL_law_853 ex2 ?_
  obtain ⟨z3, H⟩ := zifE H
  obtain ⟨q4, eq4, H⟩ := zbind H
  refine z_callV (pc := 854) (mc := mc) (ms := ms) (d' := 6) (mc' := 0) (ms' := 0) (rest := []) [.int x1, .int x2] dL_law_854 md_X11_held ml_L_82 im_X11_held se_X11_held rfl z3 rfl rfl (Nat.le_of_ble_eq_true rfl) (by omega) (k_X11_held eq4) ?_
  refine z_pop (pc := 857) dL_law_857 rfl ?_
  refine z_aload_n (pc := 858) 2 dL_law_858 rfl rfl ?_
  refine z_aload_n (pc := 859) 0 dL_law_859 rfl rfl ?_
  refine z_iload (pc := 860) 4 dL_law_860 rfl ?_
  refine z_iconst (pc := 862) (x := 1) dL_law_862 zc_iconst_1 ?_
  refine z_iadd (pc := 863) dL_law_863 ?_
  obtain ⟨x5, ex5, H⟩ := zbind H
  refine z_iaload (pc := 864) dL_law_864 ex5 ?_
  refine z_aload_n (pc := 865) 0 dL_law_865 rfl rfl ?_
  refine z_iload (pc := 866) 4 dL_law_866 rfl ?_
  refine z_iconst (pc := 868) (x := 2) dL_law_868 zc_iconst_2 ?_
  refine z_iadd (pc := 869) dL_law_869 ?_
  obtain ⟨x6, ex6, H⟩ := zbind H
  refine z_iaload (pc := 870) dL_law_870 ex6 ?_
  obtain ⟨z7, H⟩ := zifE H
  obtain ⟨q8, eq8, H⟩ := zbind H
  refine z_callV (pc := 871) (mc := mc) (ms := ms) (d' := 4) (mc' := 0) (ms' := 0) (rest := []) [.int x5, .int x6] dL_law_871 md_X12_held ml_L_85 im_X12_held se_X12_held rfl z7 rfl rfl (Nat.le_of_ble_eq_true rfl) (by omega) (k_X12_held eq8) ?_
  refine z_pop (pc := 874) dL_law_874 rfl ?_
  refine z_goto (pc := 875) 1498 dL_law_875 (by decide) ?_
  cases H
  exact z_mono (Nat.le_refl _) (by omega) (by omega) (z_sub [0, 1, 2, 3, 4] rfl K)
def c_L_13 (N v0 v1 v2 : Nat) (v4 : Int32) (h : zH) : Option zH := (aI h v0 (v4 + 1)).bind fun x1 => zif (zob h v1 11) <| (f_X11_since N v1 x1 h).bind fun q3 => (aI q3.2 v0 (v4 + 1)).bind fun x4 => zif (zob q3.2 v2 12) <| (f_X12_since N v2 x4 q3.2).bind fun q6 => some q6.2
set_option maxRecDepth 100000 in
set_option maxHeartbeats 4000000 in
theorem kc_L_13 {N d mc ms v0 v1 v2 v3 : Nat} {v4 : Int32} {h h2 : zH} {vv : Option Value} {hh : zH} (hd0 : 7 ≤ d) (H : c_L_13 N v0 v1 v2 v4 h = some h2) (K : zW yL_law cL_law 7 (some .boolean) d mc ms 1498 [(0, .ref v0), (1, .ref v1), (2, .ref v2), (3, .ref v3), (4, .int v4)] [] h2 vv hh) : zW yL_law cL_law 7 (some .boolean) d (mc + 0) (ms + 0) 878 [(0, .ref v0), (1, .ref v1), (2, .ref v2), (3, .ref v3), (4, .int v4)] [] h vv hh := by
  unfold c_L_13 at H
  refine z_aload_n (pc := 878) 1 dL_law_878 rfl rfl ?_
  refine z_aload_n (pc := 879) 0 dL_law_879 rfl rfl ?_
  refine z_iload (pc := 880) 4 dL_law_880 rfl ?_
  refine z_iconst (pc := 882) (x := 1) dL_law_882 zc_iconst_1 ?_
  refine z_iadd (pc := 883) dL_law_883 ?_
  obtain ⟨x1, ex1, H⟩ := zbind H
  refine z_iaload (pc := 884) dL_law_884 ex1 ?_
  obtain ⟨z2, H⟩ := zifE H
  obtain ⟨q3, eq3, H⟩ := zbind H
  refine z_callV (pc := 885) (mc := mc) (ms := ms) (d' := 6) (mc' := 0) (ms' := 0) (rest := []) [.int x1] dL_law_885 md_X11_since ml_L_86 im_X11_since se_X11_since rfl z2 rfl rfl (Nat.le_of_ble_eq_true rfl) (by omega) (k_X11_since eq3) ?_
  refine z_pop (pc := 888) dL_law_888 rfl ?_
  refine z_aload_n (pc := 889) 2 dL_law_889 rfl rfl ?_
  refine z_aload_n (pc := 890) 0 dL_law_890 rfl rfl ?_
  refine z_iload (pc := 891) 4 dL_law_891 rfl ?_
  refine z_iconst (pc := 893) (x := 1) dL_law_893 zc_iconst_1 ?_
  refine z_iadd (pc := 894) dL_law_894 ?_
  obtain ⟨x4, ex4, H⟩ := zbind H
  refine z_iaload (pc := 895) dL_law_895 ex4 ?_
  obtain ⟨z5, H⟩ := zifE H
  obtain ⟨q6, eq6, H⟩ := zbind H
  refine z_callV (pc := 896) (mc := mc) (ms := ms) (d' := 4) (mc' := 0) (ms' := 0) (rest := []) [.int x4] dL_law_896 md_X12_since ml_L_89 im_X12_since se_X12_since rfl z5 rfl rfl (Nat.le_of_ble_eq_true rfl) (by omega) (k_X12_since eq6) ?_
  refine z_pop (pc := 899) dL_law_899 rfl ?_
  refine z_goto (pc := 900) 1498 dL_law_900 (by decide) ?_
  cases H
  exact z_mono (Nat.le_refl _) (by omega) (by omega) (z_sub [0, 1, 2, 3, 4] rfl K)
def c_L_14 (N v0 v1 v2 : Nat) (v4 : Int32) (h : zH) : Option zH := (aI h v0 (v4 + 1)).bind fun x1 => (aI h v0 (v4 + 2)).bind fun x2 => (aI h v0 (v4 + 3)).bind fun x3 => (aI h v0 (v4 + 4)).bind fun x4 => (aI h v0 (v4 + 5)).bind fun x5 => zif (zob h v1 11) <| (f_X11_stream N v1 x1 x2 x3 x4 x5 h).bind fun q7 => (aI q7.2 v0 (v4 + 1)).bind fun x8 => (aI q7.2 v0 (v4 + 2)).bind fun x9 => (aI q7.2 v0 (v4 + 3)).bind fun x10 => (aI q7.2 v0 (v4 + 4)).bind fun x11 => (aI q7.2 v0 (v4 + 5)).bind fun x12 => zif (zob q7.2 v2 12) <| (f_X12_stream N v2 x8 x9 x10 x11 x12 q7.2).bind fun q14 => some q14.2
set_option maxRecDepth 100000 in
set_option maxHeartbeats 4000000 in
theorem kc_L_14 {N d mc ms v0 v1 v2 v3 : Nat} {v4 : Int32} {h h2 : zH} {vv : Option Value} {hh : zH} (hd0 : 3 ≤ d) (H : c_L_14 N v0 v1 v2 v4 h = some h2) (K : zW yL_law cL_law 7 (some .boolean) d mc ms 1498 [(0, .ref v0), (1, .ref v1), (2, .ref v2), (3, .ref v3), (4, .int v4)] [] h2 vv hh) : zW yL_law cL_law 7 (some .boolean) d (mc + 0) (ms + 0) 903 [(0, .ref v0), (1, .ref v1), (2, .ref v2), (3, .ref v3), (4, .int v4)] [] h vv hh := by
  unfold c_L_14 at H
  refine z_aload_n (pc := 903) 1 dL_law_903 rfl rfl ?_
  refine z_aload_n (pc := 904) 0 dL_law_904 rfl rfl ?_
  refine z_iload (pc := 905) 4 dL_law_905 rfl ?_
  refine z_iconst (pc := 907) (x := 1) dL_law_907 zc_iconst_1 ?_
  refine z_iadd (pc := 908) dL_law_908 ?_
  obtain ⟨x1, ex1, H⟩ := zbind H
  refine z_iaload (pc := 909) dL_law_909 ex1 ?_
  refine z_aload_n (pc := 910) 0 dL_law_910 rfl rfl ?_
  refine z_iload (pc := 911) 4 dL_law_911 rfl ?_
  refine z_iconst (pc := 913) (x := 2) dL_law_913 zc_iconst_2 ?_
  refine z_iadd (pc := 914) dL_law_914 ?_
  obtain ⟨x2, ex2, H⟩ := zbind H
  refine z_iaload (pc := 915) dL_law_915 ex2 ?_
  refine z_aload_n (pc := 916) 0 dL_law_916 rfl rfl ?_
  refine z_iload (pc := 917) 4 dL_law_917 rfl ?_
  refine z_iconst (pc := 919) (x := 3) dL_law_919 zc_iconst_3 ?_
  refine z_iadd (pc := 920) dL_law_920 ?_
  obtain ⟨x3, ex3, H⟩ := zbind H
  refine z_iaload (pc := 921) dL_law_921 ex3 ?_
  refine z_aload_n (pc := 922) 0 dL_law_922 rfl rfl ?_
  refine z_iload (pc := 923) 4 dL_law_923 rfl ?_
  refine z_iconst (pc := 925) (x := 4) dL_law_925 zc_iconst_4 ?_
  refine z_iadd (pc := 926) dL_law_926 ?_
  obtain ⟨x4, ex4, H⟩ := zbind H
  refine z_iaload (pc := 927) dL_law_927 ex4 ?_
  refine z_aload_n (pc := 928) 0 dL_law_928 rfl rfl ?_
  refine z_iload (pc := 929) 4 dL_law_929 rfl ?_
  refine z_iconst (pc := 931) (x := 5) dL_law_931 zc_iconst_5 ?_
  refine z_iadd (pc := 932) dL_law_932 ?_
  obtain ⟨x5, ex5, H⟩ := zbind H
  refine z_iaload (pc := 933) dL_law_933 ex5 ?_
  obtain ⟨z6, H⟩ := zifE H
  obtain ⟨q7, eq7, H⟩ := zbind H
  refine z_callV (pc := 934) (mc := mc) (ms := ms) (d' := 2) (mc' := 0) (ms' := 0) (rest := []) [.int x1, .int x2, .int x3, .int x4, .int x5] dL_law_934 md_X11_stream ml_L_90 im_X11_stream se_X11_stream rfl z6 rfl rfl (Nat.le_of_ble_eq_true rfl) (by omega) (k_X11_stream eq7) ?_
  refine z_pop (pc := 937) dL_law_937 rfl ?_
  refine z_aload_n (pc := 938) 2 dL_law_938 rfl rfl ?_
  refine z_aload_n (pc := 939) 0 dL_law_939 rfl rfl ?_
  refine z_iload (pc := 940) 4 dL_law_940 rfl ?_
  refine z_iconst (pc := 942) (x := 1) dL_law_942 zc_iconst_1 ?_
  refine z_iadd (pc := 943) dL_law_943 ?_
  obtain ⟨x8, ex8, H⟩ := zbind H
  refine z_iaload (pc := 944) dL_law_944 ex8 ?_
  refine z_aload_n (pc := 945) 0 dL_law_945 rfl rfl ?_
  refine z_iload (pc := 946) 4 dL_law_946 rfl ?_
  refine z_iconst (pc := 948) (x := 2) dL_law_948 zc_iconst_2 ?_
  refine z_iadd (pc := 949) dL_law_949 ?_
  obtain ⟨x9, ex9, H⟩ := zbind H
  refine z_iaload (pc := 950) dL_law_950 ex9 ?_
  refine z_aload_n (pc := 951) 0 dL_law_951 rfl rfl ?_
  refine z_iload (pc := 952) 4 dL_law_952 rfl ?_
  refine z_iconst (pc := 954) (x := 3) dL_law_954 zc_iconst_3 ?_
  refine z_iadd (pc := 955) dL_law_955 ?_
  obtain ⟨x10, ex10, H⟩ := zbind H
  refine z_iaload (pc := 956) dL_law_956 ex10 ?_
  refine z_aload_n (pc := 957) 0 dL_law_957 rfl rfl ?_
  refine z_iload (pc := 958) 4 dL_law_958 rfl ?_
  refine z_iconst (pc := 960) (x := 4) dL_law_960 zc_iconst_4 ?_
  refine z_iadd (pc := 961) dL_law_961 ?_
  obtain ⟨x11, ex11, H⟩ := zbind H
  refine z_iaload (pc := 962) dL_law_962 ex11 ?_
  refine z_aload_n (pc := 963) 0 dL_law_963 rfl rfl ?_
  refine z_iload (pc := 964) 4 dL_law_964 rfl ?_
  refine z_iconst (pc := 966) (x := 5) dL_law_966 zc_iconst_5 ?_
  refine z_iadd (pc := 967) dL_law_967 ?_
  obtain ⟨x12, ex12, H⟩ := zbind H
  refine z_iaload (pc := 968) dL_law_968 ex12 ?_
  obtain ⟨z13, H⟩ := zifE H
  obtain ⟨q14, eq14, H⟩ := zbind H
  refine z_callV (pc := 969) (mc := mc) (ms := ms) (d' := 2) (mc' := 0) (ms' := 0) (rest := []) [.int x8, .int x9, .int x10, .int x11, .int x12] dL_law_969 md_X12_stream ml_L_93 im_X12_stream se_X12_stream rfl z13 rfl rfl (Nat.le_of_ble_eq_true rfl) (by omega) (k_X12_stream eq14) ?_
  refine z_pop (pc := 972) dL_law_972 rfl ?_
  refine z_goto (pc := 973) 1498 dL_law_973 (by decide) ?_
  cases H
  exact z_mono (Nat.le_refl _) (by omega) (by omega) (z_sub [0, 1, 2, 3, 4] rfl K)
def c_L_15 (N v0 v1 v2 : Nat) (v4 : Int32) (h : zH) : Option zH := (aI h v0 (v4 + 1)).bind fun x1 => (aI h v0 (v4 + 2)).bind fun x2 => (aI h v0 (v4 + 3)).bind fun x3 => (if x3 = 0 then (some 0) else (some 1) : Option (Int32)).bind fun m4 => zif (zob h v1 11) <| (f_X11_together N v1 x1 x2 m4 h).bind fun q7 => (aI q7.2 v0 (v4 + 1)).bind fun x8 => (aI q7.2 v0 (v4 + 2)).bind fun x9 => (aI q7.2 v0 (v4 + 3)).bind fun x10 => (if x10 = 0 then (some 0) else (some 1) : Option (Int32)).bind fun m11 => zif (zob q7.2 v2 12) <| (f_X12_together N v2 x8 x9 m11 q7.2).bind fun q14 => some q14.2
set_option maxRecDepth 100000 in
set_option maxHeartbeats 4000000 in
theorem kc_L_15 {N d mc ms v0 v1 v2 v3 : Nat} {v4 : Int32} {h h2 : zH} {vv : Option Value} {hh : zH} (hd0 : 3 ≤ d) (H : c_L_15 N v0 v1 v2 v4 h = some h2) (K : zW yL_law cL_law 7 (some .boolean) d mc ms 1498 [(0, .ref v0), (1, .ref v1), (2, .ref v2), (3, .ref v3), (4, .int v4)] [] h2 vv hh) : zW yL_law cL_law 7 (some .boolean) d (mc + 0) (ms + 0) 976 [(0, .ref v0), (1, .ref v1), (2, .ref v2), (3, .ref v3), (4, .int v4)] [] h vv hh := by
  unfold c_L_15 at H
  refine z_aload_n (pc := 976) 1 dL_law_976 rfl rfl ?_
  refine z_aload_n (pc := 977) 0 dL_law_977 rfl rfl ?_
  refine z_iload (pc := 978) 4 dL_law_978 rfl ?_
  refine z_iconst (pc := 980) (x := 1) dL_law_980 zc_iconst_1 ?_
  refine z_iadd (pc := 981) dL_law_981 ?_
  obtain ⟨x1, ex1, H⟩ := zbind H
  refine z_iaload (pc := 982) dL_law_982 ex1 ?_
  refine z_aload_n (pc := 983) 0 dL_law_983 rfl rfl ?_
  refine z_iload (pc := 984) 4 dL_law_984 rfl ?_
  refine z_iconst (pc := 986) (x := 2) dL_law_986 zc_iconst_2 ?_
  refine z_iadd (pc := 987) dL_law_987 ?_
  obtain ⟨x2, ex2, H⟩ := zbind H
  refine z_iaload (pc := 988) dL_law_988 ex2 ?_
  refine z_aload_n (pc := 989) 0 dL_law_989 rfl rfl ?_
  refine z_iload (pc := 990) 4 dL_law_990 rfl ?_
  refine z_iconst (pc := 992) (x := 3) dL_law_992 zc_iconst_3 ?_
  refine z_iadd (pc := 993) dL_law_993 ?_
  obtain ⟨x3, ex3, H⟩ := zbind H
  refine z_iaload (pc := 994) dL_law_994 ex3 ?_
  obtain ⟨m4, em4, H⟩ := zbind H
  have Jm4 : zW yL_law cL_law 7 (some .boolean) d mc ms 1003 [(0, .ref v0), (1, .ref v1), (2, .ref v2), (3, .ref v3), (4, .int v4)] [.int m4, .int x2, .int x1, .ref v1] h vv hh := by
    obtain ⟨z6, H⟩ := zifE H
    obtain ⟨q7, eq7, H⟩ := zbind H
    refine z_callV (pc := 1003) (mc := mc) (ms := ms) (d' := 2) (mc' := 0) (ms' := 0) (rest := []) [.int x1, .int x2, .int m4] dL_law_1003 md_X11_together ml_L_94 im_X11_together se_X11_together rfl z6 rfl rfl (Nat.le_of_ble_eq_true rfl) (by omega) (k_X11_together eq7) ?_
    refine z_pop (pc := 1006) dL_law_1006 rfl ?_
    refine z_aload_n (pc := 1007) 2 dL_law_1007 rfl rfl ?_
    refine z_aload_n (pc := 1008) 0 dL_law_1008 rfl rfl ?_
    refine z_iload (pc := 1009) 4 dL_law_1009 rfl ?_
    refine z_iconst (pc := 1011) (x := 1) dL_law_1011 zc_iconst_1 ?_
    refine z_iadd (pc := 1012) dL_law_1012 ?_
    obtain ⟨x8, ex8, H⟩ := zbind H
    refine z_iaload (pc := 1013) dL_law_1013 ex8 ?_
    refine z_aload_n (pc := 1014) 0 dL_law_1014 rfl rfl ?_
    refine z_iload (pc := 1015) 4 dL_law_1015 rfl ?_
    refine z_iconst (pc := 1017) (x := 2) dL_law_1017 zc_iconst_2 ?_
    refine z_iadd (pc := 1018) dL_law_1018 ?_
    obtain ⟨x9, ex9, H⟩ := zbind H
    refine z_iaload (pc := 1019) dL_law_1019 ex9 ?_
    refine z_aload_n (pc := 1020) 0 dL_law_1020 rfl rfl ?_
    refine z_iload (pc := 1021) 4 dL_law_1021 rfl ?_
    refine z_iconst (pc := 1023) (x := 3) dL_law_1023 zc_iconst_3 ?_
    refine z_iadd (pc := 1024) dL_law_1024 ?_
    obtain ⟨x10, ex10, H⟩ := zbind H
    refine z_iaload (pc := 1025) dL_law_1025 ex10 ?_
    obtain ⟨m11, em11, H⟩ := zbind H
    have Jm11 : zW yL_law cL_law 7 (some .boolean) d mc ms 1034 [(0, .ref v0), (1, .ref v1), (2, .ref v2), (3, .ref v3), (4, .int v4)] [.int m11, .int x9, .int x8, .ref v2] q7.2 vv hh := by
      obtain ⟨z13, H⟩ := zifE H
      obtain ⟨q14, eq14, H⟩ := zbind H
      refine z_callV (pc := 1034) (mc := mc) (ms := ms) (d' := 2) (mc' := 0) (ms' := 0) (rest := []) [.int x8, .int x9, .int m11] dL_law_1034 md_X12_together ml_L_98 im_X12_together se_X12_together rfl z13 rfl rfl (Nat.le_of_ble_eq_true rfl) (by omega) (k_X12_together eq14) ?_
      refine z_pop (pc := 1037) dL_law_1037 rfl ?_
      refine z_goto (pc := 1038) 1498 dL_law_1038 (by decide) ?_
      cases H
      exact z_mono (Nat.le_refl _) (by omega) (by omega) (z_sub [0, 1, 2, 3, 4] rfl K)
    refine z_if_eq (pc := 1026) 1033 dL_law_1026 (by decide) (fun c12 => ?_) (fun c12 => ?_)
    · rw [if_pos c12] at em11
      refine z_iconst (pc := 1033) (x := 0) dL_law_1033 zc_iconst_0 ?_
      cases em11
      exact z_sub [0, 1, 2, 3, 4] rfl Jm11
    · rw [if_neg c12] at em11
      refine z_iconst (pc := 1029) (x := 1) dL_law_1029 zc_iconst_1 ?_
      refine z_goto (pc := 1030) 1034 dL_law_1030 (by decide) ?_
      cases em11
      exact z_sub [0, 1, 2, 3, 4] rfl Jm11
  refine z_if_eq (pc := 995) 1002 dL_law_995 (by decide) (fun c5 => ?_) (fun c5 => ?_)
  · rw [if_pos c5] at em4
    refine z_iconst (pc := 1002) (x := 0) dL_law_1002 zc_iconst_0 ?_
    cases em4
    exact z_sub [0, 1, 2, 3, 4] rfl Jm4
  · rw [if_neg c5] at em4
    refine z_iconst (pc := 998) (x := 1) dL_law_998 zc_iconst_1 ?_
    refine z_goto (pc := 999) 1003 dL_law_999 (by decide) ?_
    cases em4
    exact z_sub [0, 1, 2, 3, 4] rfl Jm4
def c_L_16 (N v0 v1 v2 : Nat) (v4 : Int32) (h : zH) : Option zH := (aI h v0 (v4 + 1)).bind fun x1 => (aI h v0 (v4 + 2)).bind fun x2 => zif (zob h v1 11) <| (f_X11_lights N v1 x1 x2 h).bind fun q4 => (aI q4.2 v0 (v4 + 1)).bind fun x5 => (aI q4.2 v0 (v4 + 2)).bind fun x6 => zif (zob q4.2 v2 12) <| (f_X12_lights N v2 x5 x6 q4.2).bind fun q8 => some q8.2
set_option maxRecDepth 100000 in
set_option maxHeartbeats 4000000 in
theorem kc_L_16 {N d mc ms v0 v1 v2 v3 : Nat} {v4 : Int32} {h h2 : zH} {vv : Option Value} {hh : zH} (hd0 : 6 ≤ d) (H : c_L_16 N v0 v1 v2 v4 h = some h2) (K : zW yL_law cL_law 7 (some .boolean) d mc ms 1498 [(0, .ref v0), (1, .ref v1), (2, .ref v2), (3, .ref v3), (4, .int v4)] [] h2 vv hh) : zW yL_law cL_law 7 (some .boolean) d (mc + 0) (ms + 0) 1041 [(0, .ref v0), (1, .ref v1), (2, .ref v2), (3, .ref v3), (4, .int v4)] [] h vv hh := by
  unfold c_L_16 at H
  refine z_aload_n (pc := 1041) 1 dL_law_1041 rfl rfl ?_
  refine z_aload_n (pc := 1042) 0 dL_law_1042 rfl rfl ?_
  refine z_iload (pc := 1043) 4 dL_law_1043 rfl ?_
  refine z_iconst (pc := 1045) (x := 1) dL_law_1045 zc_iconst_1 ?_
  refine z_iadd (pc := 1046) dL_law_1046 ?_
  obtain ⟨x1, ex1, H⟩ := zbind H
  refine z_iaload (pc := 1047) dL_law_1047 ex1 ?_
  refine z_aload_n (pc := 1048) 0 dL_law_1048 rfl rfl ?_
  refine z_iload (pc := 1049) 4 dL_law_1049 rfl ?_
  refine z_iconst (pc := 1051) (x := 2) dL_law_1051 zc_iconst_2 ?_
  refine z_iadd (pc := 1052) dL_law_1052 ?_
  obtain ⟨x2, ex2, H⟩ := zbind H
  refine z_iaload (pc := 1053) dL_law_1053 ex2 ?_
  obtain ⟨z3, H⟩ := zifE H
  obtain ⟨q4, eq4, H⟩ := zbind H
  refine z_callV (pc := 1054) (mc := mc) (ms := ms) (d' := 5) (mc' := 0) (ms' := 0) (rest := []) [.int x1, .int x2] dL_law_1054 md_X11_lights ml_L_99 im_X11_lights se_X11_lights rfl z3 rfl rfl (Nat.le_of_ble_eq_true rfl) (by omega) (k_X11_lights eq4) ?_
  refine z_pop (pc := 1057) dL_law_1057 rfl ?_
  refine z_aload_n (pc := 1058) 2 dL_law_1058 rfl rfl ?_
  refine z_aload_n (pc := 1059) 0 dL_law_1059 rfl rfl ?_
  refine z_iload (pc := 1060) 4 dL_law_1060 rfl ?_
  refine z_iconst (pc := 1062) (x := 1) dL_law_1062 zc_iconst_1 ?_
  refine z_iadd (pc := 1063) dL_law_1063 ?_
  obtain ⟨x5, ex5, H⟩ := zbind H
  refine z_iaload (pc := 1064) dL_law_1064 ex5 ?_
  refine z_aload_n (pc := 1065) 0 dL_law_1065 rfl rfl ?_
  refine z_iload (pc := 1066) 4 dL_law_1066 rfl ?_
  refine z_iconst (pc := 1068) (x := 2) dL_law_1068 zc_iconst_2 ?_
  refine z_iadd (pc := 1069) dL_law_1069 ?_
  obtain ⟨x6, ex6, H⟩ := zbind H
  refine z_iaload (pc := 1070) dL_law_1070 ex6 ?_
  obtain ⟨z7, H⟩ := zifE H
  obtain ⟨q8, eq8, H⟩ := zbind H
  refine z_callV (pc := 1071) (mc := mc) (ms := ms) (d' := 4) (mc' := 0) (ms' := 0) (rest := []) [.int x5, .int x6] dL_law_1071 md_X12_lights ml_L_102 im_X12_lights se_X12_lights rfl z7 rfl rfl (Nat.le_of_ble_eq_true rfl) (by omega) (k_X12_lights eq8) ?_
  refine z_pop (pc := 1074) dL_law_1074 rfl ?_
  refine z_goto (pc := 1075) 1498 dL_law_1075 (by decide) ?_
  cases H
  exact z_mono (Nat.le_refl _) (by omega) (by omega) (z_sub [0, 1, 2, 3, 4] rfl K)
def c_L_17 (N v0 v1 v2 : Nat) (v4 : Int32) (h : zH) : Option zH := (aI h v0 (v4 + 1)).bind fun x1 => zif (zob h v1 11) <| (f_X11_voters N v1 x1 h).bind fun q3 => (aI q3.2 v0 (v4 + 1)).bind fun x4 => zif (zob q3.2 v2 12) <| (f_X12_voters N v2 x4 q3.2).bind fun q6 => some q6.2
set_option maxRecDepth 100000 in
set_option maxHeartbeats 4000000 in
theorem kc_L_17 {N d mc ms v0 v1 v2 v3 : Nat} {v4 : Int32} {h h2 : zH} {vv : Option Value} {hh : zH} (hd0 : 2 ≤ d) (H : c_L_17 N v0 v1 v2 v4 h = some h2) (K : zW yL_law cL_law 7 (some .boolean) d mc ms 1498 [(0, .ref v0), (1, .ref v1), (2, .ref v2), (3, .ref v3), (4, .int v4)] [] h2 vv hh) : zW yL_law cL_law 7 (some .boolean) d (mc + 0) (ms + 0) 1078 [(0, .ref v0), (1, .ref v1), (2, .ref v2), (3, .ref v3), (4, .int v4)] [] h vv hh := by
  unfold c_L_17 at H
  refine z_aload_n (pc := 1078) 1 dL_law_1078 rfl rfl ?_
  refine z_aload_n (pc := 1079) 0 dL_law_1079 rfl rfl ?_
  refine z_iload (pc := 1080) 4 dL_law_1080 rfl ?_
  refine z_iconst (pc := 1082) (x := 1) dL_law_1082 zc_iconst_1 ?_
  refine z_iadd (pc := 1083) dL_law_1083 ?_
  obtain ⟨x1, ex1, H⟩ := zbind H
  refine z_iaload (pc := 1084) dL_law_1084 ex1 ?_
  obtain ⟨z2, H⟩ := zifE H
  obtain ⟨q3, eq3, H⟩ := zbind H
  refine z_callV (pc := 1085) (mc := mc) (ms := ms) (d' := 1) (mc' := 0) (ms' := 0) (rest := []) [.int x1] dL_law_1085 md_X11_voters ml_L_103 im_X11_voters se_X11_voters rfl z2 rfl rfl (Nat.le_of_ble_eq_true rfl) (by omega) (k_X11_voters eq3) ?_
  refine z_pop (pc := 1088) dL_law_1088 rfl ?_
  refine z_aload_n (pc := 1089) 2 dL_law_1089 rfl rfl ?_
  refine z_aload_n (pc := 1090) 0 dL_law_1090 rfl rfl ?_
  refine z_iload (pc := 1091) 4 dL_law_1091 rfl ?_
  refine z_iconst (pc := 1093) (x := 1) dL_law_1093 zc_iconst_1 ?_
  refine z_iadd (pc := 1094) dL_law_1094 ?_
  obtain ⟨x4, ex4, H⟩ := zbind H
  refine z_iaload (pc := 1095) dL_law_1095 ex4 ?_
  obtain ⟨z5, H⟩ := zifE H
  obtain ⟨q6, eq6, H⟩ := zbind H
  refine z_callV (pc := 1096) (mc := mc) (ms := ms) (d' := 1) (mc' := 0) (ms' := 0) (rest := []) [.int x4] dL_law_1096 md_X12_voters ml_L_106 im_X12_voters se_X12_voters rfl z5 rfl rfl (Nat.le_of_ble_eq_true rfl) (by omega) (k_X12_voters eq6) ?_
  refine z_pop (pc := 1099) dL_law_1099 rfl ?_
  refine z_goto (pc := 1100) 1498 dL_law_1100 (by decide) ?_
  cases H
  exact z_mono (Nat.le_refl _) (by omega) (by omega) (z_sub [0, 1, 2, 3, 4] rfl K)
def c_L_18 (N v0 v1 v2 : Nat) (v4 : Int32) (h : zH) : Option zH := (aI h v0 (v4 + 1)).bind fun x1 => (aI h v0 (v4 + 2)).bind fun x2 => (aI h v0 (v4 + 3)).bind fun x3 => zif (zob h v1 11) <| (f_X11_leans N v1 x1 x2 x3 h).bind fun q5 => (aI q5.2 v0 (v4 + 1)).bind fun x6 => (aI q5.2 v0 (v4 + 2)).bind fun x7 => (aI q5.2 v0 (v4 + 3)).bind fun x8 => zif (zob q5.2 v2 12) <| (f_X12_leans N v2 x6 x7 x8 q5.2).bind fun q10 => some q10.2
set_option maxRecDepth 100000 in
set_option maxHeartbeats 4000000 in
theorem kc_L_18 {N d mc ms v0 v1 v2 v3 : Nat} {v4 : Int32} {h h2 : zH} {vv : Option Value} {hh : zH} (hd0 : 3 ≤ d) (H : c_L_18 N v0 v1 v2 v4 h = some h2) (K : zW yL_law cL_law 7 (some .boolean) d mc ms 1498 [(0, .ref v0), (1, .ref v1), (2, .ref v2), (3, .ref v3), (4, .int v4)] [] h2 vv hh) : zW yL_law cL_law 7 (some .boolean) d (mc + 0) (ms + 0) 1103 [(0, .ref v0), (1, .ref v1), (2, .ref v2), (3, .ref v3), (4, .int v4)] [] h vv hh := by
  unfold c_L_18 at H
  refine z_aload_n (pc := 1103) 1 dL_law_1103 rfl rfl ?_
  refine z_aload_n (pc := 1104) 0 dL_law_1104 rfl rfl ?_
  refine z_iload (pc := 1105) 4 dL_law_1105 rfl ?_
  refine z_iconst (pc := 1107) (x := 1) dL_law_1107 zc_iconst_1 ?_
  refine z_iadd (pc := 1108) dL_law_1108 ?_
  obtain ⟨x1, ex1, H⟩ := zbind H
  refine z_iaload (pc := 1109) dL_law_1109 ex1 ?_
  refine z_aload_n (pc := 1110) 0 dL_law_1110 rfl rfl ?_
  refine z_iload (pc := 1111) 4 dL_law_1111 rfl ?_
  refine z_iconst (pc := 1113) (x := 2) dL_law_1113 zc_iconst_2 ?_
  refine z_iadd (pc := 1114) dL_law_1114 ?_
  obtain ⟨x2, ex2, H⟩ := zbind H
  refine z_iaload (pc := 1115) dL_law_1115 ex2 ?_
  refine z_aload_n (pc := 1116) 0 dL_law_1116 rfl rfl ?_
  refine z_iload (pc := 1117) 4 dL_law_1117 rfl ?_
  refine z_iconst (pc := 1119) (x := 3) dL_law_1119 zc_iconst_3 ?_
  refine z_iadd (pc := 1120) dL_law_1120 ?_
  obtain ⟨x3, ex3, H⟩ := zbind H
  refine z_iaload (pc := 1121) dL_law_1121 ex3 ?_
  obtain ⟨z4, H⟩ := zifE H
  obtain ⟨q5, eq5, H⟩ := zbind H
  refine z_callV (pc := 1122) (mc := mc) (ms := ms) (d' := 2) (mc' := 0) (ms' := 0) (rest := []) [.int x1, .int x2, .int x3] dL_law_1122 md_X11_leans ml_L_107 im_X11_leans se_X11_leans rfl z4 rfl rfl (Nat.le_of_ble_eq_true rfl) (by omega) (k_X11_leans eq5) ?_
  refine z_pop (pc := 1125) dL_law_1125 rfl ?_
  refine z_aload_n (pc := 1126) 2 dL_law_1126 rfl rfl ?_
  refine z_aload_n (pc := 1127) 0 dL_law_1127 rfl rfl ?_
  refine z_iload (pc := 1128) 4 dL_law_1128 rfl ?_
  refine z_iconst (pc := 1130) (x := 1) dL_law_1130 zc_iconst_1 ?_
  refine z_iadd (pc := 1131) dL_law_1131 ?_
  obtain ⟨x6, ex6, H⟩ := zbind H
  refine z_iaload (pc := 1132) dL_law_1132 ex6 ?_
  refine z_aload_n (pc := 1133) 0 dL_law_1133 rfl rfl ?_
  refine z_iload (pc := 1134) 4 dL_law_1134 rfl ?_
  refine z_iconst (pc := 1136) (x := 2) dL_law_1136 zc_iconst_2 ?_
  refine z_iadd (pc := 1137) dL_law_1137 ?_
  obtain ⟨x7, ex7, H⟩ := zbind H
  refine z_iaload (pc := 1138) dL_law_1138 ex7 ?_
  refine z_aload_n (pc := 1139) 0 dL_law_1139 rfl rfl ?_
  refine z_iload (pc := 1140) 4 dL_law_1140 rfl ?_
  refine z_iconst (pc := 1142) (x := 3) dL_law_1142 zc_iconst_3 ?_
  refine z_iadd (pc := 1143) dL_law_1143 ?_
  obtain ⟨x8, ex8, H⟩ := zbind H
  refine z_iaload (pc := 1144) dL_law_1144 ex8 ?_
  obtain ⟨z9, H⟩ := zifE H
  obtain ⟨q10, eq10, H⟩ := zbind H
  refine z_callV (pc := 1145) (mc := mc) (ms := ms) (d' := 1) (mc' := 0) (ms' := 0) (rest := []) [.int x6, .int x7, .int x8] dL_law_1145 md_X12_leans ml_L_111 im_X12_leans se_X12_leans rfl z9 rfl rfl (Nat.le_of_ble_eq_true rfl) (by omega) (k_X12_leans eq10) ?_
  refine z_pop (pc := 1148) dL_law_1148 rfl ?_
  refine z_goto (pc := 1149) 1498 dL_law_1149 (by decide) ?_
  cases H
  exact z_mono (Nat.le_refl _) (by omega) (by omega) (z_sub [0, 1, 2, 3, 4] rfl K)
def c_L_19 (N v0 v1 v2 : Nat) (v4 : Int32) (h : zH) : Option zH := (aI h v0 (v4 + 1)).bind fun x1 => zif (zob h v1 11) <| (f_X11_passes N v1 x1 h).bind fun q3 => (aI q3.2 v0 (v4 + 1)).bind fun x4 => zif (zob q3.2 v2 12) <| (f_X12_passes N v2 x4 q3.2).bind fun q6 => some q6.2
set_option maxRecDepth 100000 in
set_option maxHeartbeats 4000000 in
theorem kc_L_19 {N d mc ms v0 v1 v2 v3 : Nat} {v4 : Int32} {h h2 : zH} {vv : Option Value} {hh : zH} (hd0 : 5 ≤ d) (H : c_L_19 N v0 v1 v2 v4 h = some h2) (K : zW yL_law cL_law 7 (some .boolean) d mc ms 1498 [(0, .ref v0), (1, .ref v1), (2, .ref v2), (3, .ref v3), (4, .int v4)] [] h2 vv hh) : zW yL_law cL_law 7 (some .boolean) d (mc + 0) (ms + 0) 1152 [(0, .ref v0), (1, .ref v1), (2, .ref v2), (3, .ref v3), (4, .int v4)] [] h vv hh := by
  unfold c_L_19 at H
  refine z_aload_n (pc := 1152) 1 dL_law_1152 rfl rfl ?_
  refine z_aload_n (pc := 1153) 0 dL_law_1153 rfl rfl ?_
  refine z_iload (pc := 1154) 4 dL_law_1154 rfl ?_
  refine z_iconst (pc := 1156) (x := 1) dL_law_1156 zc_iconst_1 ?_
  refine z_iadd (pc := 1157) dL_law_1157 ?_
  obtain ⟨x1, ex1, H⟩ := zbind H
  refine z_iaload (pc := 1158) dL_law_1158 ex1 ?_
  obtain ⟨z2, H⟩ := zifE H
  obtain ⟨q3, eq3, H⟩ := zbind H
  refine z_callV (pc := 1159) (mc := mc) (ms := ms) (d' := 4) (mc' := 0) (ms' := 0) (rest := []) [.int x1] dL_law_1159 md_X11_passes ml_L_112 im_X11_passes se_X11_passes rfl z2 rfl rfl (Nat.le_of_ble_eq_true rfl) (by omega) (k_X11_passes eq3) ?_
  refine z_pop (pc := 1162) dL_law_1162 rfl ?_
  refine z_aload_n (pc := 1163) 2 dL_law_1163 rfl rfl ?_
  refine z_aload_n (pc := 1164) 0 dL_law_1164 rfl rfl ?_
  refine z_iload (pc := 1165) 4 dL_law_1165 rfl ?_
  refine z_iconst (pc := 1167) (x := 1) dL_law_1167 zc_iconst_1 ?_
  refine z_iadd (pc := 1168) dL_law_1168 ?_
  obtain ⟨x4, ex4, H⟩ := zbind H
  refine z_iaload (pc := 1169) dL_law_1169 ex4 ?_
  obtain ⟨z5, H⟩ := zifE H
  obtain ⟨q6, eq6, H⟩ := zbind H
  refine z_callV (pc := 1170) (mc := mc) (ms := ms) (d' := 2) (mc' := 0) (ms' := 0) (rest := []) [.int x4] dL_law_1170 md_X12_passes ml_L_115 im_X12_passes se_X12_passes rfl z5 rfl rfl (Nat.le_of_ble_eq_true rfl) (by omega) (k_X12_passes eq6) ?_
  refine z_pop (pc := 1173) dL_law_1173 rfl ?_
  refine z_goto (pc := 1174) 1498 dL_law_1174 (by decide) ?_
  cases H
  exact z_mono (Nat.le_refl _) (by omega) (by omega) (z_sub [0, 1, 2, 3, 4] rfl K)
def c_L_20 (N v0 v1 v2 : Nat) (v4 : Int32) (h : zH) : Option zH := (aI h v0 (v4 + 1)).bind fun x1 => zif (zob h v1 11) <| (f_X11_most N v1 x1 h).bind fun q3 => (aI q3.2 v0 (v4 + 1)).bind fun x4 => zif (zob q3.2 v2 12) <| (f_X12_most N v2 x4 q3.2).bind fun q6 => some q6.2
set_option maxRecDepth 100000 in
set_option maxHeartbeats 4000000 in
theorem kc_L_20 {N d mc ms v0 v1 v2 v3 : Nat} {v4 : Int32} {h h2 : zH} {vv : Option Value} {hh : zH} (hd0 : 5 ≤ d) (H : c_L_20 N v0 v1 v2 v4 h = some h2) (K : zW yL_law cL_law 7 (some .boolean) d mc ms 1498 [(0, .ref v0), (1, .ref v1), (2, .ref v2), (3, .ref v3), (4, .int v4)] [] h2 vv hh) : zW yL_law cL_law 7 (some .boolean) d (mc + 0) (ms + 0) 1177 [(0, .ref v0), (1, .ref v1), (2, .ref v2), (3, .ref v3), (4, .int v4)] [] h vv hh := by
  unfold c_L_20 at H
  refine z_aload_n (pc := 1177) 1 dL_law_1177 rfl rfl ?_
  refine z_aload_n (pc := 1178) 0 dL_law_1178 rfl rfl ?_
  refine z_iload (pc := 1179) 4 dL_law_1179 rfl ?_
  refine z_iconst (pc := 1181) (x := 1) dL_law_1181 zc_iconst_1 ?_
  refine z_iadd (pc := 1182) dL_law_1182 ?_
  obtain ⟨x1, ex1, H⟩ := zbind H
  refine z_iaload (pc := 1183) dL_law_1183 ex1 ?_
  obtain ⟨z2, H⟩ := zifE H
  obtain ⟨q3, eq3, H⟩ := zbind H
  refine z_callV (pc := 1184) (mc := mc) (ms := ms) (d' := 4) (mc' := 0) (ms' := 0) (rest := []) [.int x1] dL_law_1184 md_X11_most ml_L_116 im_X11_most se_X11_most rfl z2 rfl rfl (Nat.le_of_ble_eq_true rfl) (by omega) (k_X11_most eq3) ?_
  refine z_pop (pc := 1187) dL_law_1187 rfl ?_
  refine z_aload_n (pc := 1188) 2 dL_law_1188 rfl rfl ?_
  refine z_aload_n (pc := 1189) 0 dL_law_1189 rfl rfl ?_
  refine z_iload (pc := 1190) 4 dL_law_1190 rfl ?_
  refine z_iconst (pc := 1192) (x := 1) dL_law_1192 zc_iconst_1 ?_
  refine z_iadd (pc := 1193) dL_law_1193 ?_
  obtain ⟨x4, ex4, H⟩ := zbind H
  refine z_iaload (pc := 1194) dL_law_1194 ex4 ?_
  obtain ⟨z5, H⟩ := zifE H
  obtain ⟨q6, eq6, H⟩ := zbind H
  refine z_callV (pc := 1195) (mc := mc) (ms := ms) (d' := 2) (mc' := 0) (ms' := 0) (rest := []) [.int x4] dL_law_1195 md_X12_most ml_L_119 im_X12_most se_X12_most rfl z5 rfl rfl (Nat.le_of_ble_eq_true rfl) (by omega) (k_X12_most eq6) ?_
  refine z_pop (pc := 1198) dL_law_1198 rfl ?_
  refine z_goto (pc := 1199) 1498 dL_law_1199 (by decide) ?_
  cases H
  exact z_mono (Nat.le_refl _) (by omega) (by omega) (z_sub [0, 1, 2, 3, 4] rfl K)
def c_L_21 (N v0 v1 v2 : Nat) (v4 : Int32) (h : zH) : Option zH := (aI h v0 (v4 + 1)).bind fun x1 => (aI h v0 (v4 + 2)).bind fun x2 => (aI h v0 (v4 + 3)).bind fun x3 => (aI h v0 (v4 + 4)).bind fun x4 => zif (zob h v1 11) <| (f_X11_counted N v1 x1 x2 x3 x4 h).bind fun q6 => (aI q6.2 v0 (v4 + 1)).bind fun x7 => (aI q6.2 v0 (v4 + 2)).bind fun x8 => (aI q6.2 v0 (v4 + 3)).bind fun x9 => (aI q6.2 v0 (v4 + 4)).bind fun x10 => zif (zob q6.2 v2 12) <| (f_X12_counted N v2 x7 x8 x9 x10 q6.2).bind fun q12 => some q12.2
set_option maxRecDepth 100000 in
set_option maxHeartbeats 4000000 in
theorem kc_L_21 {N d mc ms v0 v1 v2 v3 : Nat} {v4 : Int32} {h h2 : zH} {vv : Option Value} {hh : zH} (hd0 : 3 ≤ d) (H : c_L_21 N v0 v1 v2 v4 h = some h2) (K : zW yL_law cL_law 7 (some .boolean) d mc ms 1498 [(0, .ref v0), (1, .ref v1), (2, .ref v2), (3, .ref v3), (4, .int v4)] [] h2 vv hh) : zW yL_law cL_law 7 (some .boolean) d (mc + 0) (ms + 0) 1202 [(0, .ref v0), (1, .ref v1), (2, .ref v2), (3, .ref v3), (4, .int v4)] [] h vv hh := by
  unfold c_L_21 at H
  refine z_aload_n (pc := 1202) 1 dL_law_1202 rfl rfl ?_
  refine z_aload_n (pc := 1203) 0 dL_law_1203 rfl rfl ?_
  refine z_iload (pc := 1204) 4 dL_law_1204 rfl ?_
  refine z_iconst (pc := 1206) (x := 1) dL_law_1206 zc_iconst_1 ?_
  refine z_iadd (pc := 1207) dL_law_1207 ?_
  obtain ⟨x1, ex1, H⟩ := zbind H
  refine z_iaload (pc := 1208) dL_law_1208 ex1 ?_
  refine z_aload_n (pc := 1209) 0 dL_law_1209 rfl rfl ?_
  refine z_iload (pc := 1210) 4 dL_law_1210 rfl ?_
  refine z_iconst (pc := 1212) (x := 2) dL_law_1212 zc_iconst_2 ?_
  refine z_iadd (pc := 1213) dL_law_1213 ?_
  obtain ⟨x2, ex2, H⟩ := zbind H
  refine z_iaload (pc := 1214) dL_law_1214 ex2 ?_
  refine z_aload_n (pc := 1215) 0 dL_law_1215 rfl rfl ?_
  refine z_iload (pc := 1216) 4 dL_law_1216 rfl ?_
  refine z_iconst (pc := 1218) (x := 3) dL_law_1218 zc_iconst_3 ?_
  refine z_iadd (pc := 1219) dL_law_1219 ?_
  obtain ⟨x3, ex3, H⟩ := zbind H
  refine z_iaload (pc := 1220) dL_law_1220 ex3 ?_
  refine z_aload_n (pc := 1221) 0 dL_law_1221 rfl rfl ?_
  refine z_iload (pc := 1222) 4 dL_law_1222 rfl ?_
  refine z_iconst (pc := 1224) (x := 4) dL_law_1224 zc_iconst_4 ?_
  refine z_iadd (pc := 1225) dL_law_1225 ?_
  obtain ⟨x4, ex4, H⟩ := zbind H
  refine z_iaload (pc := 1226) dL_law_1226 ex4 ?_
  obtain ⟨z5, H⟩ := zifE H
  obtain ⟨q6, eq6, H⟩ := zbind H
  refine z_callV (pc := 1227) (mc := mc) (ms := ms) (d' := 1) (mc' := 0) (ms' := 0) (rest := []) [.int x1, .int x2, .int x3, .int x4] dL_law_1227 md_X11_counted ml_L_120 im_X11_counted se_X11_counted rfl z5 rfl rfl (Nat.le_of_ble_eq_true rfl) (by omega) (k_X11_counted eq6) ?_
  refine z_pop (pc := 1230) dL_law_1230 rfl ?_
  refine z_aload_n (pc := 1231) 2 dL_law_1231 rfl rfl ?_
  refine z_aload_n (pc := 1232) 0 dL_law_1232 rfl rfl ?_
  refine z_iload (pc := 1233) 4 dL_law_1233 rfl ?_
  refine z_iconst (pc := 1235) (x := 1) dL_law_1235 zc_iconst_1 ?_
  refine z_iadd (pc := 1236) dL_law_1236 ?_
  obtain ⟨x7, ex7, H⟩ := zbind H
  refine z_iaload (pc := 1237) dL_law_1237 ex7 ?_
  refine z_aload_n (pc := 1238) 0 dL_law_1238 rfl rfl ?_
  refine z_iload (pc := 1239) 4 dL_law_1239 rfl ?_
  refine z_iconst (pc := 1241) (x := 2) dL_law_1241 zc_iconst_2 ?_
  refine z_iadd (pc := 1242) dL_law_1242 ?_
  obtain ⟨x8, ex8, H⟩ := zbind H
  refine z_iaload (pc := 1243) dL_law_1243 ex8 ?_
  refine z_aload_n (pc := 1244) 0 dL_law_1244 rfl rfl ?_
  refine z_iload (pc := 1245) 4 dL_law_1245 rfl ?_
  refine z_iconst (pc := 1247) (x := 3) dL_law_1247 zc_iconst_3 ?_
  refine z_iadd (pc := 1248) dL_law_1248 ?_
  obtain ⟨x9, ex9, H⟩ := zbind H
  refine z_iaload (pc := 1249) dL_law_1249 ex9 ?_
  refine z_aload_n (pc := 1250) 0 dL_law_1250 rfl rfl ?_
  refine z_iload (pc := 1251) 4 dL_law_1251 rfl ?_
  refine z_iconst (pc := 1253) (x := 4) dL_law_1253 zc_iconst_4 ?_
  refine z_iadd (pc := 1254) dL_law_1254 ?_
  obtain ⟨x10, ex10, H⟩ := zbind H
  refine z_iaload (pc := 1255) dL_law_1255 ex10 ?_
  obtain ⟨z11, H⟩ := zifE H
  obtain ⟨q12, eq12, H⟩ := zbind H
  refine z_callV (pc := 1256) (mc := mc) (ms := ms) (d' := 2) (mc' := 0) (ms' := 0) (rest := []) [.int x7, .int x8, .int x9, .int x10] dL_law_1256 md_X12_counted ml_L_124 im_X12_counted se_X12_counted rfl z11 rfl rfl (Nat.le_of_ble_eq_true rfl) (by omega) (k_X12_counted eq12) ?_
  refine z_pop (pc := 1259) dL_law_1259 rfl ?_
  refine z_goto (pc := 1260) 1498 dL_law_1260 (by decide) ?_
  cases H
  exact z_mono (Nat.le_refl _) (by omega) (by omega) (z_sub [0, 1, 2, 3, 4] rfl K)
def c_L_22 (N v0 v1 v2 : Nat) (v4 : Int32) (h : zH) : Option zH := (aI h v0 (v4 + 1)).bind fun x1 => (aI h v0 (v4 + 2)).bind fun x2 => (aI h v0 (v4 + 3)).bind fun x3 => zif (zob h v1 11) <| (f_X11_fell N v1 x1 x2 x3 h).bind fun q5 => (aI h v0 (v4 + 1)).bind fun x6 => (aI h v0 (v4 + 2)).bind fun x7 => (aI h v0 (v4 + 3)).bind fun x8 => zif (zob h v2 12) <| (f_X12_fell N v2 x6 x7 x8 h).bind fun q10 => some q10.2
set_option maxRecDepth 100000 in
set_option maxHeartbeats 4000000 in
theorem kc_L_22 {N d mc ms v0 v1 v2 v3 : Nat} {v4 : Int32} {h h2 : zH} {vv : Option Value} {hh : zH} (hd0 : 3 ≤ d) (H : c_L_22 N v0 v1 v2 v4 h = some h2) (K : zW yL_law cL_law 7 (some .boolean) d mc ms 1498 [(0, .ref v0), (1, .ref v1), (2, .ref v2), (3, .ref v3), (4, .int v4)] [] h2 vv hh) : zW yL_law cL_law 7 (some .boolean) d (mc + 0) (ms + 0) 1263 [(0, .ref v0), (1, .ref v1), (2, .ref v2), (3, .ref v3), (4, .int v4)] [] h vv hh := by
  unfold c_L_22 at H
  refine z_aload_n (pc := 1263) 1 dL_law_1263 rfl rfl ?_
  refine z_aload_n (pc := 1264) 0 dL_law_1264 rfl rfl ?_
  refine z_iload (pc := 1265) 4 dL_law_1265 rfl ?_
  refine z_iconst (pc := 1267) (x := 1) dL_law_1267 zc_iconst_1 ?_
  refine z_iadd (pc := 1268) dL_law_1268 ?_
  obtain ⟨x1, ex1, H⟩ := zbind H
  refine z_iaload (pc := 1269) dL_law_1269 ex1 ?_
  refine z_aload_n (pc := 1270) 0 dL_law_1270 rfl rfl ?_
  refine z_iload (pc := 1271) 4 dL_law_1271 rfl ?_
  refine z_iconst (pc := 1273) (x := 2) dL_law_1273 zc_iconst_2 ?_
  refine z_iadd (pc := 1274) dL_law_1274 ?_
  obtain ⟨x2, ex2, H⟩ := zbind H
  refine z_iaload (pc := 1275) dL_law_1275 ex2 ?_
  refine z_aload_n (pc := 1276) 0 dL_law_1276 rfl rfl ?_
  refine z_iload (pc := 1277) 4 dL_law_1277 rfl ?_
  refine z_iconst (pc := 1279) (x := 3) dL_law_1279 zc_iconst_3 ?_
  refine z_iadd (pc := 1280) dL_law_1280 ?_
  obtain ⟨x3, ex3, H⟩ := zbind H
  refine z_iaload (pc := 1281) dL_law_1281 ex3 ?_
  obtain ⟨z4, H⟩ := zifE H
  obtain ⟨q5, eq5, H⟩ := zbind H
  refine z_callV (pc := 1282) (mc := mc) (ms := ms) (d' := 2) (mc' := 0) (ms' := 0) (rest := []) [.int x1, .int x2, .int x3] dL_law_1282 md_X11_fell ml_L_125 im_X11_fell se_X11_fell rfl z4 rfl rfl (Nat.le_of_ble_eq_true rfl) (by omega) (k_X11_fell eq5) ?_
  refine z_pop (pc := 1285) dL_law_1285 rfl ?_
  refine z_aload_n (pc := 1286) 2 dL_law_1286 rfl rfl ?_
  refine z_aload_n (pc := 1287) 0 dL_law_1287 rfl rfl ?_
  refine z_iload (pc := 1288) 4 dL_law_1288 rfl ?_
  refine z_iconst (pc := 1290) (x := 1) dL_law_1290 zc_iconst_1 ?_
  refine z_iadd (pc := 1291) dL_law_1291 ?_
  obtain ⟨x6, ex6, H⟩ := zbind H
  refine z_iaload (pc := 1292) dL_law_1292 ex6 ?_
  refine z_aload_n (pc := 1293) 0 dL_law_1293 rfl rfl ?_
  refine z_iload (pc := 1294) 4 dL_law_1294 rfl ?_
  refine z_iconst (pc := 1296) (x := 2) dL_law_1296 zc_iconst_2 ?_
  refine z_iadd (pc := 1297) dL_law_1297 ?_
  obtain ⟨x7, ex7, H⟩ := zbind H
  refine z_iaload (pc := 1298) dL_law_1298 ex7 ?_
  refine z_aload_n (pc := 1299) 0 dL_law_1299 rfl rfl ?_
  refine z_iload (pc := 1300) 4 dL_law_1300 rfl ?_
  refine z_iconst (pc := 1302) (x := 3) dL_law_1302 zc_iconst_3 ?_
  refine z_iadd (pc := 1303) dL_law_1303 ?_
  obtain ⟨x8, ex8, H⟩ := zbind H
  refine z_iaload (pc := 1304) dL_law_1304 ex8 ?_
  obtain ⟨z9, H⟩ := zifE H
  obtain ⟨q10, eq10, H⟩ := zbind H
  refine z_callV (pc := 1305) (mc := mc) (ms := ms) (d' := 2) (mc' := 0) (ms' := 0) (rest := []) [.int x6, .int x7, .int x8] dL_law_1305 md_X12_fell ml_L_128 im_X12_fell se_X12_fell rfl z9 rfl rfl (Nat.le_of_ble_eq_true rfl) (by omega) (k_X12_fell eq10) ?_
  refine z_pop (pc := 1308) dL_law_1308 rfl ?_
  refine z_goto (pc := 1309) 1498 dL_law_1309 (by decide) ?_
  cases H
  exact z_mono (Nat.le_refl _) (by omega) (by omega) (z_sub [0, 1, 2, 3, 4] rfl K)
def c_L_23 (N v0 v1 v2 : Nat) (v4 : Int32) (h : zH) : Option zH := (aI h v0 (v4 + 1)).bind fun x1 => (aI h v0 (v4 + 2)).bind fun x2 => (aI h v0 (v4 + 3)).bind fun x3 => (aI h v0 (v4 + 4)).bind fun x4 => (aI h v0 (v4 + 5)).bind fun x5 => (aI h v0 (v4 + 6)).bind fun x6 => zif (zob h v1 11) <| (f_X11_street N v1 x1 x2 x3 x4 x5 x6 h).bind fun q8 => (aI q8.2 v0 (v4 + 1)).bind fun x9 => (aI q8.2 v0 (v4 + 2)).bind fun x10 => (aI q8.2 v0 (v4 + 3)).bind fun x11 => (aI q8.2 v0 (v4 + 4)).bind fun x12 => (aI q8.2 v0 (v4 + 5)).bind fun x13 => (aI q8.2 v0 (v4 + 6)).bind fun x14 => zif (zob q8.2 v2 12) <| (f_X12_street N v2 x9 x10 x11 x12 x13 x14 q8.2).bind fun q16 => some q16.2
set_option maxRecDepth 100000 in
set_option maxHeartbeats 4000000 in
theorem kc_L_23 {N d mc ms v0 v1 v2 v3 : Nat} {v4 : Int32} {h h2 : zH} {vv : Option Value} {hh : zH} (hd0 : 3 ≤ d) (H : c_L_23 N v0 v1 v2 v4 h = some h2) (K : zW yL_law cL_law 7 (some .boolean) d mc ms 1498 [(0, .ref v0), (1, .ref v1), (2, .ref v2), (3, .ref v3), (4, .int v4)] [] h2 vv hh) : zW yL_law cL_law 7 (some .boolean) d (mc + 0) (ms + 0) 1312 [(0, .ref v0), (1, .ref v1), (2, .ref v2), (3, .ref v3), (4, .int v4)] [] h vv hh := by
  unfold c_L_23 at H
  refine z_aload_n (pc := 1312) 1 dL_law_1312 rfl rfl ?_
  refine z_aload_n (pc := 1313) 0 dL_law_1313 rfl rfl ?_
  refine z_iload (pc := 1314) 4 dL_law_1314 rfl ?_
  refine z_iconst (pc := 1316) (x := 1) dL_law_1316 zc_iconst_1 ?_
  refine z_iadd (pc := 1317) dL_law_1317 ?_
  obtain ⟨x1, ex1, H⟩ := zbind H
  refine z_iaload (pc := 1318) dL_law_1318 ex1 ?_
  refine z_aload_n (pc := 1319) 0 dL_law_1319 rfl rfl ?_
  refine z_iload (pc := 1320) 4 dL_law_1320 rfl ?_
  refine z_iconst (pc := 1322) (x := 2) dL_law_1322 zc_iconst_2 ?_
  refine z_iadd (pc := 1323) dL_law_1323 ?_
  obtain ⟨x2, ex2, H⟩ := zbind H
  refine z_iaload (pc := 1324) dL_law_1324 ex2 ?_
  refine z_aload_n (pc := 1325) 0 dL_law_1325 rfl rfl ?_
  refine z_iload (pc := 1326) 4 dL_law_1326 rfl ?_
  refine z_iconst (pc := 1328) (x := 3) dL_law_1328 zc_iconst_3 ?_
  refine z_iadd (pc := 1329) dL_law_1329 ?_
  obtain ⟨x3, ex3, H⟩ := zbind H
  refine z_iaload (pc := 1330) dL_law_1330 ex3 ?_
  refine z_aload_n (pc := 1331) 0 dL_law_1331 rfl rfl ?_
  refine z_iload (pc := 1332) 4 dL_law_1332 rfl ?_
  refine z_iconst (pc := 1334) (x := 4) dL_law_1334 zc_iconst_4 ?_
  refine z_iadd (pc := 1335) dL_law_1335 ?_
  obtain ⟨x4, ex4, H⟩ := zbind H
  refine z_iaload (pc := 1336) dL_law_1336 ex4 ?_
  refine z_aload_n (pc := 1337) 0 dL_law_1337 rfl rfl ?_
  refine z_iload (pc := 1338) 4 dL_law_1338 rfl ?_
  refine z_iconst (pc := 1340) (x := 5) dL_law_1340 zc_iconst_5 ?_
  refine z_iadd (pc := 1341) dL_law_1341 ?_
  obtain ⟨x5, ex5, H⟩ := zbind H
  refine z_iaload (pc := 1342) dL_law_1342 ex5 ?_
  refine z_aload_n (pc := 1343) 0 dL_law_1343 rfl rfl ?_
  refine z_iload (pc := 1344) 4 dL_law_1344 rfl ?_
  refine z_bipush (pc := 1346) (x := 6) dL_law_1346 zc_bipush_6 ?_
  refine z_iadd (pc := 1348) dL_law_1348 ?_
  obtain ⟨x6, ex6, H⟩ := zbind H
  refine z_iaload (pc := 1349) dL_law_1349 ex6 ?_
  obtain ⟨z7, H⟩ := zifE H
  obtain ⟨q8, eq8, H⟩ := zbind H
  refine z_callV (pc := 1350) (mc := mc) (ms := ms) (d' := 2) (mc' := 0) (ms' := 0) (rest := []) [.int x1, .int x2, .int x3, .int x4, .int x5, .int x6] dL_law_1350 md_X11_street ml_L_129 im_X11_street se_X11_street rfl z7 rfl rfl (Nat.le_of_ble_eq_true rfl) (by omega) (k_X11_street eq8) ?_
  refine z_pop (pc := 1353) dL_law_1353 rfl ?_
  refine z_aload_n (pc := 1354) 2 dL_law_1354 rfl rfl ?_
  refine z_aload_n (pc := 1355) 0 dL_law_1355 rfl rfl ?_
  refine z_iload (pc := 1356) 4 dL_law_1356 rfl ?_
  refine z_iconst (pc := 1358) (x := 1) dL_law_1358 zc_iconst_1 ?_
  refine z_iadd (pc := 1359) dL_law_1359 ?_
  obtain ⟨x9, ex9, H⟩ := zbind H
  refine z_iaload (pc := 1360) dL_law_1360 ex9 ?_
  refine z_aload_n (pc := 1361) 0 dL_law_1361 rfl rfl ?_
  refine z_iload (pc := 1362) 4 dL_law_1362 rfl ?_
  refine z_iconst (pc := 1364) (x := 2) dL_law_1364 zc_iconst_2 ?_
  refine z_iadd (pc := 1365) dL_law_1365 ?_
  obtain ⟨x10, ex10, H⟩ := zbind H
  refine z_iaload (pc := 1366) dL_law_1366 ex10 ?_
  refine z_aload_n (pc := 1367) 0 dL_law_1367 rfl rfl ?_
  refine z_iload (pc := 1368) 4 dL_law_1368 rfl ?_
  refine z_iconst (pc := 1370) (x := 3) dL_law_1370 zc_iconst_3 ?_
  refine z_iadd (pc := 1371) dL_law_1371 ?_
  obtain ⟨x11, ex11, H⟩ := zbind H
  refine z_iaload (pc := 1372) dL_law_1372 ex11 ?_
  refine z_aload_n (pc := 1373) 0 dL_law_1373 rfl rfl ?_
  refine z_iload (pc := 1374) 4 dL_law_1374 rfl ?_
  refine z_iconst (pc := 1376) (x := 4) dL_law_1376 zc_iconst_4 ?_
  refine z_iadd (pc := 1377) dL_law_1377 ?_
  obtain ⟨x12, ex12, H⟩ := zbind H
  refine z_iaload (pc := 1378) dL_law_1378 ex12 ?_
  refine z_aload_n (pc := 1379) 0 dL_law_1379 rfl rfl ?_
  refine z_iload (pc := 1380) 4 dL_law_1380 rfl ?_
  refine z_iconst (pc := 1382) (x := 5) dL_law_1382 zc_iconst_5 ?_
  refine z_iadd (pc := 1383) dL_law_1383 ?_
  obtain ⟨x13, ex13, H⟩ := zbind H
  refine z_iaload (pc := 1384) dL_law_1384 ex13 ?_
  refine z_aload_n (pc := 1385) 0 dL_law_1385 rfl rfl ?_
  refine z_iload (pc := 1386) 4 dL_law_1386 rfl ?_
  refine z_bipush (pc := 1388) (x := 6) dL_law_1388 zc_bipush_6 ?_
  refine z_iadd (pc := 1390) dL_law_1390 ?_
  obtain ⟨x14, ex14, H⟩ := zbind H
  refine z_iaload (pc := 1391) dL_law_1391 ex14 ?_
  obtain ⟨z15, H⟩ := zifE H
  obtain ⟨q16, eq16, H⟩ := zbind H
  refine z_callV (pc := 1392) (mc := mc) (ms := ms) (d' := 2) (mc' := 0) (ms' := 0) (rest := []) [.int x9, .int x10, .int x11, .int x12, .int x13, .int x14] dL_law_1392 md_X12_street ml_L_133 im_X12_street se_X12_street rfl z15 rfl rfl (Nat.le_of_ble_eq_true rfl) (by omega) (k_X12_street eq16) ?_
  refine z_pop (pc := 1395) dL_law_1395 rfl ?_
  refine z_goto (pc := 1396) 1498 dL_law_1396 (by decide) ?_
  cases H
  exact z_mono (Nat.le_refl _) (by omega) (by omega) (z_sub [0, 1, 2, 3, 4] rfl K)
def c_L_24 (N v0 v1 v2 : Nat) (v4 : Int32) (h : zH) : Option zH := (aI h v0 (v4 + 1)).bind fun x1 => (aI h v0 (v4 + 2)).bind fun x2 => zif (zob h v1 11) <| (f_X11_trip N v1 x1 x2 h).bind fun q4 => (aI q4.2 v0 (v4 + 1)).bind fun x5 => (aI q4.2 v0 (v4 + 2)).bind fun x6 => zif (zob q4.2 v2 12) <| (f_X12_trip N v2 x5 x6 q4.2).bind fun q8 => some q8.2
set_option maxRecDepth 100000 in
set_option maxHeartbeats 4000000 in
theorem kc_L_24 {N d mc ms v0 v1 v2 v3 : Nat} {v4 : Int32} {h h2 : zH} {vv : Option Value} {hh : zH} (hd0 : 3 ≤ d) (H : c_L_24 N v0 v1 v2 v4 h = some h2) (K : zW yL_law cL_law 7 (some .boolean) d mc ms 1498 [(0, .ref v0), (1, .ref v1), (2, .ref v2), (3, .ref v3), (4, .int v4)] [] h2 vv hh) : zW yL_law cL_law 7 (some .boolean) d (mc + 0) (ms + 0) 1399 [(0, .ref v0), (1, .ref v1), (2, .ref v2), (3, .ref v3), (4, .int v4)] [] h vv hh := by
  unfold c_L_24 at H
  refine z_aload_n (pc := 1399) 1 dL_law_1399 rfl rfl ?_
  refine z_aload_n (pc := 1400) 0 dL_law_1400 rfl rfl ?_
  refine z_iload (pc := 1401) 4 dL_law_1401 rfl ?_
  refine z_iconst (pc := 1403) (x := 1) dL_law_1403 zc_iconst_1 ?_
  refine z_iadd (pc := 1404) dL_law_1404 ?_
  obtain ⟨x1, ex1, H⟩ := zbind H
  refine z_iaload (pc := 1405) dL_law_1405 ex1 ?_
  refine z_aload_n (pc := 1406) 0 dL_law_1406 rfl rfl ?_
  refine z_iload (pc := 1407) 4 dL_law_1407 rfl ?_
  refine z_iconst (pc := 1409) (x := 2) dL_law_1409 zc_iconst_2 ?_
  refine z_iadd (pc := 1410) dL_law_1410 ?_
  obtain ⟨x2, ex2, H⟩ := zbind H
  refine z_iaload (pc := 1411) dL_law_1411 ex2 ?_
  obtain ⟨z3, H⟩ := zifE H
  obtain ⟨q4, eq4, H⟩ := zbind H
  refine z_callV (pc := 1412) (mc := mc) (ms := ms) (d' := 1) (mc' := 0) (ms' := 0) (rest := []) [.int x1, .int x2] dL_law_1412 md_X11_trip ml_L_134 im_X11_trip se_X11_trip rfl z3 rfl rfl (Nat.le_of_ble_eq_true rfl) (by omega) (k_X11_trip eq4) ?_
  refine z_pop (pc := 1415) dL_law_1415 rfl ?_
  refine z_aload_n (pc := 1416) 2 dL_law_1416 rfl rfl ?_
  refine z_aload_n (pc := 1417) 0 dL_law_1417 rfl rfl ?_
  refine z_iload (pc := 1418) 4 dL_law_1418 rfl ?_
  refine z_iconst (pc := 1420) (x := 1) dL_law_1420 zc_iconst_1 ?_
  refine z_iadd (pc := 1421) dL_law_1421 ?_
  obtain ⟨x5, ex5, H⟩ := zbind H
  refine z_iaload (pc := 1422) dL_law_1422 ex5 ?_
  refine z_aload_n (pc := 1423) 0 dL_law_1423 rfl rfl ?_
  refine z_iload (pc := 1424) 4 dL_law_1424 rfl ?_
  refine z_iconst (pc := 1426) (x := 2) dL_law_1426 zc_iconst_2 ?_
  refine z_iadd (pc := 1427) dL_law_1427 ?_
  obtain ⟨x6, ex6, H⟩ := zbind H
  refine z_iaload (pc := 1428) dL_law_1428 ex6 ?_
  obtain ⟨z7, H⟩ := zifE H
  obtain ⟨q8, eq8, H⟩ := zbind H
  refine z_callV (pc := 1429) (mc := mc) (ms := ms) (d' := 2) (mc' := 0) (ms' := 0) (rest := []) [.int x5, .int x6] dL_law_1429 md_X12_trip ml_L_137 im_X12_trip se_X12_trip rfl z7 rfl rfl (Nat.le_of_ble_eq_true rfl) (by omega) (k_X12_trip eq8) ?_
  refine z_pop (pc := 1432) dL_law_1432 rfl ?_
  refine z_goto (pc := 1433) 1498 dL_law_1433 (by decide) ?_
  cases H
  exact z_mono (Nat.le_refl _) (by omega) (by omega) (z_sub [0, 1, 2, 3, 4] rfl K)
def c_L_25 (N v0 v1 v2 : Nat) (v4 : Int32) (h : zH) : Option zH := (aI h v0 (v4 + 1)).bind fun x1 => (aI h v0 (v4 + 2)).bind fun x2 => zif (zob h v1 11) <| (f_X11_plan N v1 x1 x2 h).bind fun q4 => (aI q4.2 v0 (v4 + 1)).bind fun x5 => (aI q4.2 v0 (v4 + 2)).bind fun x6 => zif (zob q4.2 v2 12) <| (f_X12_plan N v2 x5 x6 q4.2).bind fun q8 => some q8.2
set_option maxRecDepth 100000 in
set_option maxHeartbeats 4000000 in
theorem kc_L_25 {N d mc ms v0 v1 v2 v3 : Nat} {v4 : Int32} {h h2 : zH} {vv : Option Value} {hh : zH} (hd0 : 15 ≤ d) (H : c_L_25 N v0 v1 v2 v4 h = some h2) (K : zW yL_law cL_law 7 (some .boolean) d mc ms 1498 [(0, .ref v0), (1, .ref v1), (2, .ref v2), (3, .ref v3), (4, .int v4)] [] h2 vv hh) : zW yL_law cL_law 7 (some .boolean) d (mc + 0) (ms + 0) 1436 [(0, .ref v0), (1, .ref v1), (2, .ref v2), (3, .ref v3), (4, .int v4)] [] h vv hh := by
  unfold c_L_25 at H
  refine z_aload_n (pc := 1436) 1 dL_law_1436 rfl rfl ?_
  refine z_aload_n (pc := 1437) 0 dL_law_1437 rfl rfl ?_
  refine z_iload (pc := 1438) 4 dL_law_1438 rfl ?_
  refine z_iconst (pc := 1440) (x := 1) dL_law_1440 zc_iconst_1 ?_
  refine z_iadd (pc := 1441) dL_law_1441 ?_
  obtain ⟨x1, ex1, H⟩ := zbind H
  refine z_iaload (pc := 1442) dL_law_1442 ex1 ?_
  refine z_aload_n (pc := 1443) 0 dL_law_1443 rfl rfl ?_
  refine z_iload (pc := 1444) 4 dL_law_1444 rfl ?_
  refine z_iconst (pc := 1446) (x := 2) dL_law_1446 zc_iconst_2 ?_
  refine z_iadd (pc := 1447) dL_law_1447 ?_
  obtain ⟨x2, ex2, H⟩ := zbind H
  refine z_iaload (pc := 1448) dL_law_1448 ex2 ?_
  obtain ⟨z3, H⟩ := zifE H
  obtain ⟨q4, eq4, H⟩ := zbind H
  refine z_callV (pc := 1449) (mc := mc) (ms := ms) (d' := 14) (mc' := 0) (ms' := 0) (rest := []) [.int x1, .int x2] dL_law_1449 md_X11_plan ml_L_138 im_X11_plan se_X11_plan rfl z3 rfl rfl (Nat.le_of_ble_eq_true rfl) (by omega) (k_X11_plan eq4) ?_
  refine z_pop (pc := 1452) dL_law_1452 rfl ?_
  refine z_aload_n (pc := 1453) 2 dL_law_1453 rfl rfl ?_
  refine z_aload_n (pc := 1454) 0 dL_law_1454 rfl rfl ?_
  refine z_iload (pc := 1455) 4 dL_law_1455 rfl ?_
  refine z_iconst (pc := 1457) (x := 1) dL_law_1457 zc_iconst_1 ?_
  refine z_iadd (pc := 1458) dL_law_1458 ?_
  obtain ⟨x5, ex5, H⟩ := zbind H
  refine z_iaload (pc := 1459) dL_law_1459 ex5 ?_
  refine z_aload_n (pc := 1460) 0 dL_law_1460 rfl rfl ?_
  refine z_iload (pc := 1461) 4 dL_law_1461 rfl ?_
  refine z_iconst (pc := 1463) (x := 2) dL_law_1463 zc_iconst_2 ?_
  refine z_iadd (pc := 1464) dL_law_1464 ?_
  obtain ⟨x6, ex6, H⟩ := zbind H
  refine z_iaload (pc := 1465) dL_law_1465 ex6 ?_
  obtain ⟨z7, H⟩ := zifE H
  obtain ⟨q8, eq8, H⟩ := zbind H
  refine z_callV (pc := 1466) (mc := mc) (ms := ms) (d' := 4) (mc' := 0) (ms' := 0) (rest := []) [.int x5, .int x6] dL_law_1466 md_X12_plan ml_L_141 im_X12_plan se_X12_plan rfl z7 rfl rfl (Nat.le_of_ble_eq_true rfl) (by omega) (k_X12_plan eq8) ?_
  refine z_pop (pc := 1469) dL_law_1469 rfl ?_
  refine z_goto (pc := 1470) 1498 dL_law_1470 (by decide) ?_
  cases H
  exact z_mono (Nat.le_refl _) (by omega) (by omega) (z_sub [0, 1, 2, 3, 4] rfl K)
def c_L_26 (N v0 v1 v2 : Nat) (v4 : Int32) (h : zH) : Option zH := (aI h v0 (v4 + 1)).bind fun x1 => zif (zob h v1 11) <| (f_X11_count N v1 x1 h).bind fun q3 => (aI h v0 (v4 + 1)).bind fun x4 => zif (zob h v2 12) <| (f_X12_count N v2 x4 h).bind fun q6 => some q6.2
set_option maxRecDepth 100000 in
set_option maxHeartbeats 4000000 in
theorem kc_L_26 {N d mc ms v0 v1 v2 v3 : Nat} {v4 : Int32} {h h2 : zH} {vv : Option Value} {hh : zH} (hd0 : 4 ≤ d) (H : c_L_26 N v0 v1 v2 v4 h = some h2) (K : zW yL_law cL_law 7 (some .boolean) d mc ms 1498 [(0, .ref v0), (1, .ref v1), (2, .ref v2), (3, .ref v3), (4, .int v4)] [] h2 vv hh) : zW yL_law cL_law 7 (some .boolean) d (mc + 0) (ms + 0) 1473 [(0, .ref v0), (1, .ref v1), (2, .ref v2), (3, .ref v3), (4, .int v4)] [] h vv hh := by
  unfold c_L_26 at H
  refine z_aload_n (pc := 1473) 1 dL_law_1473 rfl rfl ?_
  refine z_aload_n (pc := 1474) 0 dL_law_1474 rfl rfl ?_
  refine z_iload (pc := 1475) 4 dL_law_1475 rfl ?_
  refine z_iconst (pc := 1477) (x := 1) dL_law_1477 zc_iconst_1 ?_
  refine z_iadd (pc := 1478) dL_law_1478 ?_
  obtain ⟨x1, ex1, H⟩ := zbind H
  refine z_iaload (pc := 1479) dL_law_1479 ex1 ?_
  obtain ⟨z2, H⟩ := zifE H
  obtain ⟨q3, eq3, H⟩ := zbind H
  refine z_callV (pc := 1480) (mc := mc) (ms := ms) (d' := 3) (mc' := 0) (ms' := 0) (rest := []) [.int x1] dL_law_1480 md_X11_count ml_L_142 im_X11_count se_X11_count rfl z2 rfl rfl (Nat.le_of_ble_eq_true rfl) (by omega) (k_X11_count eq3) ?_
  refine z_pop (pc := 1483) dL_law_1483 rfl ?_
  refine z_aload_n (pc := 1484) 2 dL_law_1484 rfl rfl ?_
  refine z_aload_n (pc := 1485) 0 dL_law_1485 rfl rfl ?_
  refine z_iload (pc := 1486) 4 dL_law_1486 rfl ?_
  refine z_iconst (pc := 1488) (x := 1) dL_law_1488 zc_iconst_1 ?_
  refine z_iadd (pc := 1489) dL_law_1489 ?_
  obtain ⟨x4, ex4, H⟩ := zbind H
  refine z_iaload (pc := 1490) dL_law_1490 ex4 ?_
  obtain ⟨z5, H⟩ := zifE H
  obtain ⟨q6, eq6, H⟩ := zbind H
  refine z_callV (pc := 1491) (mc := mc) (ms := ms) (d' := 3) (mc' := 0) (ms' := 0) (rest := []) [.int x4] dL_law_1491 md_X12_count ml_L_145 im_X12_count se_X12_count rfl z5 rfl rfl (Nat.le_of_ble_eq_true rfl) (by omega) (k_X12_count eq6) ?_
  refine z_pop (pc := 1494) dL_law_1494 rfl ?_
  refine z_goto (pc := 1495) 1498 dL_law_1495 (by decide) ?_
  cases H
  exact z_mono (Nat.le_refl _) (by omega) (by omega) (z_sub [0, 1, 2, 3, 4] rfl K)
