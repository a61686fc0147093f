theorem md_X11_years : zMd yX11_years cX11_years 2 1 (some .int) := ⟨zmw (zmt_2 _ (List.mem_of_getElem? (i := 195) rfl)) rfl, zmem 112 (by decide +kernel) rfl, by decide, by decide, by decide +kernel, by decide⟩
theorem ml_L_19 : Cond.methodLink RL 19 yX11_years ∈ zB := zmem 543 (by decide +kernel) rfl
theorem im_X11_years : Cond.instanceMethod yX11_years ∈ zB := zmem 544 (by decide +kernel) rfl
theorem se_X11_years : Cond.selects yX11_years.cls yX11_years yX11_years ∈ zB := zmem 545 (by decide +kernel) rfl
theorem md_X12_years : zMd yX12_years cX12_years 2 1 (some .int) := ⟨zmw (zmt_7 _ (List.mem_of_getElem? (i := 170) rfl)) rfl, zmem 127 (by decide +kernel) rfl, by decide, by decide, by decide +kernel, by decide⟩
theorem ml_L_23 : Cond.methodLink RL 23 yX12_years ∈ zB := zmem 1718 (by decide +kernel) rfl
theorem im_X12_years : Cond.instanceMethod yX12_years ∈ zB := zmem 1719 (by decide +kernel) rfl
theorem se_X12_years : Cond.selects yX12_years.cls yX12_years yX12_years ∈ zB := zmem 1720 (by decide +kernel) rfl
theorem md_X11_view : zMd yX11_view cX11_view 2 1 (some .boolean) := ⟨zmw (zmt_2 _ (List.mem_of_getElem? (i := 202) rfl)) rfl, zmem 112 (by decide +kernel) rfl, by decide, by decide, by decide +kernel, by decide⟩
theorem ml_L_24 : Cond.methodLink RL 24 yX11_view ∈ zB := zmem 550 (by decide +kernel) rfl
theorem im_X11_view : Cond.instanceMethod yX11_view ∈ zB := zmem 551 (by decide +kernel) rfl
theorem se_X11_view : Cond.selects yX11_view.cls yX11_view yX11_view ∈ zB := zmem 552 (by decide +kernel) rfl
theorem md_X12_view : zMd yX12_view cX12_view 2 1 (some .boolean) := ⟨zmw (zmt_7 _ (List.mem_of_getElem? (i := 180) rfl)) rfl, zmem 127 (by decide +kernel) rfl, by decide, by decide, by decide +kernel, by decide⟩
theorem ml_L_28 : Cond.methodLink RL 28 yX12_view ∈ zB := zmem 1728 (by decide +kernel) rfl
theorem im_X12_view : Cond.instanceMethod yX12_view ∈ zB := zmem 1729 (by decide +kernel) rfl
theorem se_X12_view : Cond.selects yX12_view.cls yX12_view yX12_view ∈ zB := zmem 1730 (by decide +kernel) rfl
theorem md_X11_meeting : zMd yX11_meeting cX11_meeting 11 7 (some .int) := ⟨zmw (zmt_2 _ (List.mem_of_getElem? (i := 206) rfl)) rfl, zmem 112 (by decide +kernel) rfl, by decide, by decide, by decide +kernel, by decide⟩
theorem ml_L_29 : Cond.methodLink RL 29 yX11_meeting ∈ zB := zmem 554 (by decide +kernel) rfl
theorem im_X11_meeting : Cond.instanceMethod yX11_meeting ∈ zB := zmem 555 (by decide +kernel) rfl
theorem se_X11_meeting : Cond.selects yX11_meeting.cls yX11_meeting yX11_meeting ∈ zB := zmem 556 (by decide +kernel) rfl
theorem md_X12_meeting : zMd yX12_meeting cX12_meeting 10 7 (some .int) := ⟨zmw (zmt_7 _ (List.mem_of_getElem? (i := 184) rfl)) rfl, zmem 127 (by decide +kernel) rfl, by decide, by decide, by decide +kernel, by decide⟩
theorem ml_L_33 : Cond.methodLink RL 33 yX12_meeting ∈ zB := zmem 1732 (by decide +kernel) rfl
theorem im_X12_meeting : Cond.instanceMethod yX12_meeting ∈ zB := zmem 1733 (by decide +kernel) rfl
theorem se_X12_meeting : Cond.selects yX12_meeting.cls yX12_meeting yX12_meeting ∈ zB := zmem 1734 (by decide +kernel) rfl
theorem md_X11_stand : zMd yX11_stand cX11_stand 8 5 (some .boolean) := ⟨zmw (zmt_3 _ (List.mem_of_getElem? (i := 76) rfl)) rfl, zmem 112 (by decide +kernel) rfl, by decide, by decide, by decide +kernel, by decide⟩
theorem ml_L_34 : Cond.methodLink RL 34 yX11_stand ∈ zB := zmem 664 (by decide +kernel) rfl
theorem im_X11_stand : Cond.instanceMethod yX11_stand ∈ zB := zmem 665 (by decide +kernel) rfl
theorem se_X11_stand : Cond.selects yX11_stand.cls yX11_stand yX11_stand ∈ zB := zmem 666 (by decide +kernel) rfl
theorem md_X12_stand : zMd yX12_stand cX12_stand 7 5 (some .boolean) := ⟨zmw (zmt_7 _ (List.mem_of_getElem? (i := 188) rfl)) rfl, zmem 127 (by decide +kernel) rfl, by decide, by decide, by decide +kernel, by decide⟩
theorem ml_L_38 : Cond.methodLink RL 38 yX12_stand ∈ zB := zmem 1736 (by decide +kernel) rfl
theorem im_X12_stand : Cond.instanceMethod yX12_stand ∈ zB := zmem 1737 (by decide +kernel) rfl
theorem se_X12_stand : Cond.selects yX12_stand.cls yX12_stand yX12_stand ∈ zB := zmem 1738 (by decide +kernel) rfl
theorem md_X11_look : zMd yX11_look cX11_look 4 2 (some .int) := ⟨zmw (zmt_3 _ (List.mem_of_getElem? (i := 84) rfl)) rfl, zmem 112 (by decide +kernel) rfl, by decide, by decide, by decide +kernel, by decide⟩
theorem ml_L_39 : Cond.methodLink RL 39 yX11_look ∈ zB := zmem 672 (by decide +kernel) rfl
theorem im_X11_look : Cond.instanceMethod yX11_look ∈ zB := zmem 673 (by decide +kernel) rfl
theorem se_X11_look : Cond.selects yX11_look.cls yX11_look yX11_look ∈ zB := zmem 674 (by decide +kernel) rfl
theorem md_X12_look : zMd yX12_look cX12_look 3 2 (some .int) := ⟨zmw (zmt_7 _ (List.mem_of_getElem? (i := 196) rfl)) rfl, zmem 127 (by decide +kernel) rfl, by decide, by decide, by decide +kernel, by decide⟩
theorem ml_L_43 : Cond.methodLink RL 43 yX12_look ∈ zB := zmem 1744 (by decide +kernel) rfl
theorem im_X12_look : Cond.instanceMethod yX12_look ∈ zB := zmem 1745 (by decide +kernel) rfl
theorem se_X12_look : Cond.selects yX12_look.cls yX12_look yX12_look ∈ zB := zmem 1746 (by decide +kernel) rfl
theorem kl_L_50 : Cond.constantLong RL 50 4294967295 ∈ zB := zmem 1964 (by decide +kernel) rfl
theorem md_X11_feed : zMd yX11_feed cX11_feed 7 3 (some .int) := ⟨zmw (zmt_3 _ (List.mem_of_getElem? (i := 112) rfl)) rfl, zmem 112 (by decide +kernel) rfl, by decide, by decide, by decide +kernel, by decide⟩
theorem ml_L_52 : Cond.methodLink RL 52 yX11_feed ∈ zB := zmem 700 (by decide +kernel) rfl
theorem im_X11_feed : Cond.instanceMethod yX11_feed ∈ zB := zmem 701 (by decide +kernel) rfl
theorem se_X11_feed : Cond.selects yX11_feed.cls yX11_feed yX11_feed ∈ zB := zmem 702 (by decide +kernel) rfl
theorem md_X12_feed : zMd yX12_feed cX12_feed 7 3 (some .int) := ⟨zmw (zmt_6 _ (List.mem_of_getElem? (i := 27) rfl)) rfl, zmem 127 (by decide +kernel) rfl, by decide, by decide, by decide +kernel, by decide⟩
theorem ml_L_56 : Cond.methodLink RL 56 yX12_feed ∈ zB := zmem 1335 (by decide +kernel) rfl
theorem im_X12_feed : Cond.instanceMethod yX12_feed ∈ zB := zmem 1336 (by decide +kernel) rfl
theorem se_X12_feed : Cond.selects yX12_feed.cls yX12_feed yX12_feed ∈ zB := zmem 1337 (by decide +kernel) rfl
theorem md_X11_law : zMd yX11_law cX11_law 3 1 (some .int) := ⟨zmw (zmt_3 _ (List.mem_of_getElem? (i := 121) rfl)) rfl, zmem 112 (by decide +kernel) rfl, by decide, by decide, by decide +kernel, by decide⟩
theorem ml_L_57 : Cond.methodLink RL 57 yX11_law ∈ zB := zmem 709 (by decide +kernel) rfl
theorem im_X11_law : Cond.instanceMethod yX11_law ∈ zB := zmem 710 (by decide +kernel) rfl
theorem se_X11_law : Cond.selects yX11_law.cls yX11_law yX11_law ∈ zB := zmem 711 (by decide +kernel) rfl
theorem md_X12_law : zMd yX12_law cX12_law 2 1 (some .int) := ⟨zmw (zmt_7 _ (List.mem_of_getElem? (i := 63) rfl)) rfl, zmem 127 (by decide +kernel) rfl, by decide, by decide, by decide +kernel, by decide⟩
theorem ml_L_60 : Cond.methodLink RL 60 yX12_law ∈ zB := zmem 1611 (by decide +kernel) rfl
theorem im_X12_law : Cond.instanceMethod yX12_law ∈ zB := zmem 1612 (by decide +kernel) rfl
theorem se_X12_law : Cond.selects yX12_law.cls yX12_law yX12_law ∈ zB := zmem 1613 (by decide +kernel) rfl
theorem md_X11_whose : zMd yX11_whose cX11_whose 5 3 (some .int) := ⟨zmw (zmt_4 _ (List.mem_of_getElem? (i := 93) rfl)) rfl, zmem 112 (by decide +kernel) rfl, by decide, by decide, by decide +kernel, by decide⟩
theorem ml_L_61 : Cond.methodLink RL 61 yX11_whose ∈ zB := zmem 921 (by decide +kernel) rfl
theorem im_X11_whose : Cond.instanceMethod yX11_whose ∈ zB := zmem 922 (by decide +kernel) rfl
theorem se_X11_whose : Cond.selects yX11_whose.cls yX11_whose yX11_whose ∈ zB := zmem 923 (by decide +kernel) rfl
theorem md_X12_whose : zMd yX12_whose cX12_whose 4 3 (some .int) := ⟨zmw (zmt_7 _ (List.mem_of_getElem? (i := 227) rfl)) rfl, zmem 127 (by decide +kernel) rfl, by decide, by decide, by decide +kernel, by decide⟩
theorem ml_L_64 : Cond.methodLink RL 64 yX12_whose ∈ zB := zmem 1775 (by decide +kernel) rfl
theorem im_X12_whose : Cond.instanceMethod yX12_whose ∈ zB := zmem 1776 (by decide +kernel) rfl
theorem se_X12_whose : Cond.selects yX12_whose.cls yX12_whose yX12_whose ∈ zB := zmem 1777 (by decide +kernel) rfl
theorem md_X11_changes : zMd yX11_changes cX11_changes 7 2 (some .int) := ⟨zmw (zmt_4 _ (List.mem_of_getElem? (i := 141) rfl)) rfl, zmem 112 (by decide +kernel) rfl, by decide, by decide, by decide +kernel, by decide⟩
theorem ml_L_65 : Cond.methodLink RL 65 yX11_changes ∈ zB := zmem 969 (by decide +kernel) rfl
theorem im_X11_changes : Cond.instanceMethod yX11_changes ∈ zB := zmem 970 (by decide +kernel) rfl
theorem se_X11_changes : Cond.selects yX11_changes.cls yX11_changes yX11_changes ∈ zB := zmem 971 (by decide +kernel) rfl
theorem md_X12_changes : zMd yX12_changes cX12_changes 6 2 (some .int) := ⟨zmw (zmt_8 _ (List.mem_of_getElem? (i := 14) rfl)) rfl, zmem 127 (by decide +kernel) rfl, by decide, by decide, by decide +kernel, by decide⟩
theorem ml_L_68 : Cond.methodLink RL 68 yX12_changes ∈ zB := zmem 1802 (by decide +kernel) rfl
theorem im_X12_changes : Cond.instanceMethod yX12_changes ∈ zB := zmem 1803 (by decide +kernel) rfl
theorem se_X12_changes : Cond.selects yX12_changes.cls yX12_changes yX12_changes ∈ zB := zmem 1804 (by decide +kernel) rfl
theorem md_X11_ruling : zMd yX11_ruling cX11_ruling 4 2 (some .boolean) := ⟨zmw (zmt_4 _ (List.mem_of_getElem? (i := 145) rfl)) rfl, zmem 112 (by decide +kernel) rfl, by decide, by decide, by decide +kernel, by decide⟩
theorem ml_L_69 : Cond.methodLink RL 69 yX11_ruling ∈ zB := zmem 973 (by decide +kernel) rfl
theorem im_X11_ruling : Cond.instanceMethod yX11_ruling ∈ zB := zmem 974 (by decide +kernel) rfl
theorem se_X11_ruling : Cond.selects yX11_ruling.cls yX11_ruling yX11_ruling ∈ zB := zmem 975 (by decide +kernel) rfl
theorem md_X12_ruling : zMd yX12_ruling cX12_ruling 3 2 (some .boolean) := ⟨zmw (zmt_8 _ (List.mem_of_getElem? (i := 18) rfl)) rfl, zmem 127 (by decide +kernel) rfl, by decide, by decide, by decide +kernel, by decide⟩
theorem ml_L_73 : Cond.methodLink RL 73 yX12_ruling ∈ zB := zmem 1806 (by decide +kernel) rfl
theorem im_X12_ruling : Cond.instanceMethod yX12_ruling ∈ zB := zmem 1807 (by decide +kernel) rfl
theorem se_X12_ruling : Cond.selects yX12_ruling.cls yX12_ruling yX12_ruling ∈ zB := zmem 1808 (by decide +kernel) rfl
theorem md_X11_customs : zMd yX11_customs cX11_customs 2 1 (some .int) := ⟨zmw (zmt_4 _ (List.mem_of_getElem? (i := 153) rfl)) rfl, zmem 112 (by decide +kernel) rfl, by decide, by decide, by decide +kernel, by decide⟩
theorem ml_L_74 : Cond.methodLink RL 74 yX11_customs ∈ zB := zmem 981 (by decide +kernel) rfl
theorem im_X11_customs : Cond.instanceMethod yX11_customs ∈ zB := zmem 982 (by decide +kernel) rfl
theorem se_X11_customs : Cond.selects yX11_customs.cls yX11_customs yX11_customs ∈ zB := zmem 983 (by decide +kernel) rfl
theorem md_X12_customs : zMd yX12_customs cX12_customs 2 1 (some .int) := ⟨zmw (zmt_8 _ (List.mem_of_getElem? (i := 22) rfl)) rfl, zmem 127 (by decide +kernel) rfl, by decide, by decide, by decide +kernel, by decide⟩
theorem ml_L_77 : Cond.methodLink RL 77 yX12_customs ∈ zB := zmem 1810 (by decide +kernel) rfl
theorem im_X12_customs : Cond.instanceMethod yX12_customs ∈ zB := zmem 1811 (by decide +kernel) rfl
theorem se_X12_customs : Cond.selects yX12_customs.cls yX12_customs yX12_customs ∈ zB := zmem 1812 (by decide +kernel) rfl
theorem md_X11_held : zMd yX11_held cX11_held 4 2 (some .int) := ⟨zmw (zmt_4 _ (List.mem_of_getElem? (i := 183) rfl)) rfl, zmem 112 (by decide +kernel) rfl, by decide, by decide, by decide +kernel, by decide⟩
theorem ml_L_78 : Cond.methodLink RL 78 yX11_held ∈ zB := zmem 1011 (by decide +kernel) rfl
theorem im_X11_held : Cond.instanceMethod yX11_held ∈ zB := zmem 1012 (by decide +kernel) rfl
theorem se_X11_held : Cond.selects yX11_held.cls yX11_held yX11_held ∈ zB := zmem 1013 (by decide +kernel) rfl
theorem md_X12_held : zMd yX12_held cX12_held 6 2 (some .int) := ⟨zmw (zmt_8 _ (List.mem_of_getElem? (i := 41) rfl)) rfl, zmem 127 (by decide +kernel) rfl, by decide, by decide, by decide +kernel, by decide⟩
theorem ml_L_81 : Cond.methodLink RL 81 yX12_held ∈ zB := zmem 1829 (by decide +kernel) rfl
theorem im_X12_held : Cond.instanceMethod yX12_held ∈ zB := zmem 1830 (by decide +kernel) rfl
theorem se_X12_held : Cond.selects yX12_held.cls yX12_held yX12_held ∈ zB := zmem 1831 (by decide +kernel) rfl
theorem md_X11_since : zMd yX11_since cX11_since 2 1 (some .int) := ⟨zmw (zmt_4 _ (List.mem_of_getElem? (i := 191) rfl)) rfl, zmem 112 (by decide +kernel) rfl, by decide, by decide, by decide +kernel, by decide⟩
theorem ml_L_82 : Cond.methodLink RL 82 yX11_since ∈ zB := zmem 1019 (by decide +kernel) rfl
theorem im_X11_since : Cond.instanceMethod yX11_since ∈ zB := zmem 1020 (by decide +kernel) rfl
theorem se_X11_since : Cond.selects yX11_since.cls yX11_since yX11_since ∈ zB := zmem 1021 (by decide +kernel) rfl
theorem md_X12_since : zMd yX12_since cX12_since 6 1 (some .int) := ⟨zmw (zmt_8 _ (List.mem_of_getElem? (i := 45) rfl)) rfl, zmem 127 (by decide +kernel) rfl, by decide, by decide, by decide +kernel, by decide⟩
theorem ml_L_85 : Cond.methodLink RL 85 yX12_since ∈ zB := zmem 1833 (by decide +kernel) rfl
theorem im_X12_since : Cond.instanceMethod yX12_since ∈ zB := zmem 1834 (by decide +kernel) rfl
theorem se_X12_since : Cond.selects yX12_since.cls yX12_since yX12_since ∈ zB := zmem 1835 (by decide +kernel) rfl
theorem md_X11_stream : zMd yX11_stream cX11_stream 8 5 (some .boolean) := ⟨zmw (zmt_4 _ (List.mem_of_getElem? (i := 203) rfl)) rfl, zmem 112 (by decide +kernel) rfl, by decide, by decide, by decide +kernel, by decide⟩
theorem ml_L_86 : Cond.methodLink RL 86 yX11_stream ∈ zB := zmem 1031 (by decide +kernel) rfl
theorem im_X11_stream : Cond.instanceMethod yX11_stream ∈ zB := zmem 1032 (by decide +kernel) rfl
theorem se_X11_stream : Cond.selects yX11_stream.cls yX11_stream yX11_stream ∈ zB := zmem 1033 (by decide +kernel) rfl
theorem md_X12_stream : zMd yX12_stream cX12_stream 7 5 (some .boolean) := ⟨zmw (zmt_8 _ (List.mem_of_getElem? (i := 49) rfl)) rfl, zmem 127 (by decide +kernel) rfl, by decide, by decide, by decide +kernel, by decide⟩
theorem ml_L_89 : Cond.methodLink RL 89 yX12_stream ∈ zB := zmem 1837 (by decide +kernel) rfl
theorem im_X12_stream : Cond.instanceMethod yX12_stream ∈ zB := zmem 1838 (by decide +kernel) rfl
theorem se_X12_stream : Cond.selects yX12_stream.cls yX12_stream yX12_stream ∈ zB := zmem 1839 (by decide +kernel) rfl
theorem md_X11_together : zMd yX11_together cX11_together 4 3 (some .boolean) := ⟨zmw (zmt_4 _ (List.mem_of_getElem? (i := 216) rfl)) rfl, zmem 112 (by decide +kernel) rfl, by decide, by decide, by decide +kernel, by decide⟩
theorem ml_L_90 : Cond.methodLink RL 90 yX11_together ∈ zB := zmem 1044 (by decide +kernel) rfl
theorem im_X11_together : Cond.instanceMethod yX11_together ∈ zB := zmem 1045 (by decide +kernel) rfl
theorem se_X11_together : Cond.selects yX11_together.cls yX11_together yX11_together ∈ zB := zmem 1046 (by decide +kernel) rfl
theorem md_X12_together : zMd yX12_together cX12_together 4 3 (some .boolean) := ⟨zmw (zmt_8 _ (List.mem_of_getElem? (i := 56) rfl)) rfl, zmem 127 (by decide +kernel) rfl, by decide, by decide, by decide +kernel, by decide⟩
theorem ml_L_94 : Cond.methodLink RL 94 yX12_together ∈ zB := zmem 1844 (by decide +kernel) rfl
theorem im_X12_together : Cond.instanceMethod yX12_together ∈ zB := zmem 1845 (by decide +kernel) rfl
theorem se_X12_together : Cond.selects yX12_together.cls yX12_together yX12_together ∈ zB := zmem 1846 (by decide +kernel) rfl
theorem md_X11_lights : zMd yX11_lights cX11_lights 4 2 (some .int) := ⟨zmw (zmt_4 _ (List.mem_of_getElem? (i := 224) rfl)) rfl, zmem 112 (by decide +kernel) rfl, by decide, by decide, by decide +kernel, by decide⟩
theorem ml_L_95 : Cond.methodLink RL 95 yX11_lights ∈ zB := zmem 1052 (by decide +kernel) rfl
theorem im_X11_lights : Cond.instanceMethod yX11_lights ∈ zB := zmem 1053 (by decide +kernel) rfl
theorem se_X11_lights : Cond.selects yX11_lights.cls yX11_lights yX11_lights ∈ zB := zmem 1054 (by decide +kernel) rfl
theorem md_X12_lights : zMd yX12_lights cX12_lights 5 2 (some .int) := ⟨zmw (zmt_8 _ (List.mem_of_getElem? (i := 60) rfl)) rfl, zmem 127 (by decide +kernel) rfl, by decide, by decide, by decide +kernel, by decide⟩
theorem ml_L_98 : Cond.methodLink RL 98 yX12_lights ∈ zB := zmem 1848 (by decide +kernel) rfl
theorem im_X12_lights : Cond.instanceMethod yX12_lights ∈ zB := zmem 1849 (by decide +kernel) rfl
theorem se_X12_lights : Cond.selects yX12_lights.cls yX12_lights yX12_lights ∈ zB := zmem 1850 (by decide +kernel) rfl
theorem md_X11_voters : zMd yX11_voters cX11_voters 2 1 (some .int) := ⟨zmw (zmt_5 _ (List.mem_of_getElem? (i := 33) rfl)) rfl, zmem 112 (by decide +kernel) rfl, by decide, by decide, by decide +kernel, by decide⟩
theorem ml_L_99 : Cond.methodLink RL 99 yX11_voters ∈ zB := zmem 1101 (by decide +kernel) rfl
theorem im_X11_voters : Cond.instanceMethod yX11_voters ∈ zB := zmem 1102 (by decide +kernel) rfl
theorem se_X11_voters : Cond.selects yX11_voters.cls yX11_voters yX11_voters ∈ zB := zmem 1103 (by decide +kernel) rfl
theorem md_X12_voters : zMd yX12_voters cX12_voters 3 1 (some .int) := ⟨zmw (zmt_8 _ (List.mem_of_getElem? (i := 87) rfl)) rfl, zmem 127 (by decide +kernel) rfl, by decide, by decide, by decide +kernel, by decide⟩
theorem ml_L_102 : Cond.methodLink RL 102 yX12_voters ∈ zB := zmem 1875 (by decide +kernel) rfl
theorem im_X12_voters : Cond.instanceMethod yX12_voters ∈ zB := zmem 1876 (by decide +kernel) rfl
theorem se_X12_voters : Cond.selects yX12_voters.cls yX12_voters yX12_voters ∈ zB := zmem 1877 (by decide +kernel) rfl
theorem md_X11_leans : zMd yX11_leans cX11_leans 4 3 (some .boolean) := ⟨zmw (zmt_5 _ (List.mem_of_getElem? (i := 41) rfl)) rfl, zmem 112 (by decide +kernel) rfl, by decide, by decide, by decide +kernel, by decide⟩
theorem ml_L_103 : Cond.methodLink RL 103 yX11_leans ∈ zB := zmem 1109 (by decide +kernel) rfl
theorem im_X11_leans : Cond.instanceMethod yX11_leans ∈ zB := zmem 1110 (by decide +kernel) rfl
theorem se_X11_leans : Cond.selects yX11_leans.cls yX11_leans yX11_leans ∈ zB := zmem 1111 (by decide +kernel) rfl
theorem md_X12_leans : zMd yX12_leans cX12_leans 4 3 (some .boolean) := ⟨zmw (zmt_8 _ (List.mem_of_getElem? (i := 91) rfl)) rfl, zmem 127 (by decide +kernel) rfl, by decide, by decide, by decide +kernel, by decide⟩
theorem ml_L_107 : Cond.methodLink RL 107 yX12_leans ∈ zB := zmem 1879 (by decide +kernel) rfl
theorem im_X12_leans : Cond.instanceMethod yX12_leans ∈ zB := zmem 1880 (by decide +kernel) rfl
theorem se_X12_leans : Cond.selects yX12_leans.cls yX12_leans yX12_leans ∈ zB := zmem 1881 (by decide +kernel) rfl
theorem md_X11_passes : zMd yX11_passes cX11_passes 2 1 (some .int) := ⟨zmw (zmt_5 _ (List.mem_of_getElem? (i := 50) rfl)) rfl, zmem 112 (by decide +kernel) rfl, by decide, by decide, by decide +kernel, by decide⟩
theorem ml_L_108 : Cond.methodLink RL 108 yX11_passes ∈ zB := zmem 1118 (by decide +kernel) rfl
theorem im_X11_passes : Cond.instanceMethod yX11_passes ∈ zB := zmem 1119 (by decide +kernel) rfl
theorem se_X11_passes : Cond.selects yX11_passes.cls yX11_passes yX11_passes ∈ zB := zmem 1120 (by decide +kernel) rfl
theorem md_X12_passes : zMd yX12_passes cX12_passes 2 1 (some .int) := ⟨zmw (zmt_8 _ (List.mem_of_getElem? (i := 95) rfl)) rfl, zmem 127 (by decide +kernel) rfl, by decide, by decide, by decide +kernel, by decide⟩
theorem ml_L_111 : Cond.methodLink RL 111 yX12_passes ∈ zB := zmem 1883 (by decide +kernel) rfl
theorem im_X12_passes : Cond.instanceMethod yX12_passes ∈ zB := zmem 1884 (by decide +kernel) rfl
theorem se_X12_passes : Cond.selects yX12_passes.cls yX12_passes yX12_passes ∈ zB := zmem 1885 (by decide +kernel) rfl
theorem md_X11_most : zMd yX11_most cX11_most 2 1 (some .int) := ⟨zmw (zmt_5 _ (List.mem_of_getElem? (i := 75) rfl)) rfl, zmem 112 (by decide +kernel) rfl, by decide, by decide, by decide +kernel, by decide⟩
theorem ml_L_112 : Cond.methodLink RL 112 yX11_most ∈ zB := zmem 1143 (by decide +kernel) rfl
theorem im_X11_most : Cond.instanceMethod yX11_most ∈ zB := zmem 1144 (by decide +kernel) rfl
theorem se_X11_most : Cond.selects yX11_most.cls yX11_most yX11_most ∈ zB := zmem 1145 (by decide +kernel) rfl
theorem md_X12_most : zMd yX12_most cX12_most 6 1 (some .int) := ⟨zmw (zmt_8 _ (List.mem_of_getElem? (i := 110) rfl)) rfl, zmem 127 (by decide +kernel) rfl, by decide, by decide, by decide +kernel, by decide⟩
theorem ml_L_115 : Cond.methodLink RL 115 yX12_most ∈ zB := zmem 1898 (by decide +kernel) rfl
theorem im_X12_most : Cond.instanceMethod yX12_most ∈ zB := zmem 1899 (by decide +kernel) rfl
theorem se_X12_most : Cond.selects yX12_most.cls yX12_most yX12_most ∈ zB := zmem 1900 (by decide +kernel) rfl
theorem md_X11_counted : zMd yX11_counted cX11_counted 6 4 (some .boolean) := ⟨zmw (zmt_5 _ (List.mem_of_getElem? (i := 89) rfl)) rfl, zmem 112 (by decide +kernel) rfl, by decide, by decide, by decide +kernel, by decide⟩
theorem ml_L_116 : Cond.methodLink RL 116 yX11_counted ∈ zB := zmem 1157 (by decide +kernel) rfl
theorem im_X11_counted : Cond.instanceMethod yX11_counted ∈ zB := zmem 1158 (by decide +kernel) rfl
theorem se_X11_counted : Cond.selects yX11_counted.cls yX11_counted yX11_counted ∈ zB := zmem 1159 (by decide +kernel) rfl
theorem md_X12_counted : zMd yX12_counted cX12_counted 5 4 (some .boolean) := ⟨zmw (zmt_8 _ (List.mem_of_getElem? (i := 117) rfl)) rfl, zmem 127 (by decide +kernel) rfl, by decide, by decide, by decide +kernel, by decide⟩
theorem ml_L_120 : Cond.methodLink RL 120 yX12_counted ∈ zB := zmem 1905 (by decide +kernel) rfl
theorem im_X12_counted : Cond.instanceMethod yX12_counted ∈ zB := zmem 1906 (by decide +kernel) rfl
theorem se_X12_counted : Cond.selects yX12_counted.cls yX12_counted yX12_counted ∈ zB := zmem 1907 (by decide +kernel) rfl
theorem md_X11_fell : zMd yX11_fell cX11_fell 4 3 (some .int) := ⟨zmw (zmt_5 _ (List.mem_of_getElem? (i := 98) rfl)) rfl, zmem 112 (by decide +kernel) rfl, by decide, by decide, by decide +kernel, by decide⟩
theorem ml_L_121 : Cond.methodLink RL 121 yX11_fell ∈ zB := zmem 1166 (by decide +kernel) rfl
theorem im_X11_fell : Cond.instanceMethod yX11_fell ∈ zB := zmem 1167 (by decide +kernel) rfl
theorem se_X11_fell : Cond.selects yX11_fell.cls yX11_fell yX11_fell ∈ zB := zmem 1168 (by decide +kernel) rfl
theorem md_X12_fell : zMd yX12_fell cX12_fell 6 3 (some .int) := ⟨zmw (zmt_8 _ (List.mem_of_getElem? (i := 122) rfl)) rfl, zmem 127 (by decide +kernel) rfl, by decide, by decide, by decide +kernel, by decide⟩
theorem ml_L_124 : Cond.methodLink RL 124 yX12_fell ∈ zB := zmem 1910 (by decide +kernel) rfl
theorem im_X12_fell : Cond.instanceMethod yX12_fell ∈ zB := zmem 1911 (by decide +kernel) rfl
theorem se_X12_fell : Cond.selects yX12_fell.cls yX12_fell yX12_fell ∈ zB := zmem 1912 (by decide +kernel) rfl
theorem md_X11_street : zMd yX11_street cX11_street 9 6 (some .boolean) := ⟨zmw (zmt_5 _ (List.mem_of_getElem? (i := 107) rfl)) rfl, zmem 112 (by decide +kernel) rfl, by decide, by decide, by decide +kernel, by decide⟩
theorem ml_L_125 : Cond.methodLink RL 125 yX11_street ∈ zB := zmem 1175 (by decide +kernel) rfl
theorem im_X11_street : Cond.instanceMethod yX11_street ∈ zB := zmem 1176 (by decide +kernel) rfl
theorem se_X11_street : Cond.selects yX11_street.cls yX11_street yX11_street ∈ zB := zmem 1177 (by decide +kernel) rfl
theorem md_X12_street : zMd yX12_street cX12_street 8 6 (some .boolean) := ⟨zmw (zmt_8 _ (List.mem_of_getElem? (i := 126) rfl)) rfl, zmem 127 (by decide +kernel) rfl, by decide, by decide, by decide +kernel, by decide⟩
theorem ml_L_129 : Cond.methodLink RL 129 yX12_street ∈ zB := zmem 1914 (by decide +kernel) rfl
theorem im_X12_street : Cond.instanceMethod yX12_street ∈ zB := zmem 1915 (by decide +kernel) rfl
theorem se_X12_street : Cond.selects yX12_street.cls yX12_street yX12_street ∈ zB := zmem 1916 (by decide +kernel) rfl
theorem md_X11_trip : zMd yX11_trip cX11_trip 3 2 (some .int) := ⟨zmw (zmt_5 _ (List.mem_of_getElem? (i := 120) rfl)) rfl, zmem 112 (by decide +kernel) rfl, by decide, by decide, by decide +kernel, by decide⟩
theorem ml_L_130 : Cond.methodLink RL 130 yX11_trip ∈ zB := zmem 1188 (by decide +kernel) rfl
theorem im_X11_trip : Cond.instanceMethod yX11_trip ∈ zB := zmem 1189 (by decide +kernel) rfl
theorem se_X11_trip : Cond.selects yX11_trip.cls yX11_trip yX11_trip ∈ zB := zmem 1190 (by decide +kernel) rfl
theorem md_X12_trip : zMd yX12_trip cX12_trip 3 2 (some .int) := ⟨zmw (zmt_8 _ (List.mem_of_getElem? (i := 133) rfl)) rfl, zmem 127 (by decide +kernel) rfl, by decide, by decide, by decide +kernel, by decide⟩
theorem ml_L_133 : Cond.methodLink RL 133 yX12_trip ∈ zB := zmem 1921 (by decide +kernel) rfl
theorem im_X12_trip : Cond.instanceMethod yX12_trip ∈ zB := zmem 1922 (by decide +kernel) rfl
theorem se_X12_trip : Cond.selects yX12_trip.cls yX12_trip yX12_trip ∈ zB := zmem 1923 (by decide +kernel) rfl
theorem md_X11_plan : zMd yX11_plan cX11_plan 4 2 (some .int) := ⟨zmw (zmt_5 _ (List.mem_of_getElem? (i := 128) rfl)) rfl, zmem 112 (by decide +kernel) rfl, by decide, by decide, by decide +kernel, by decide⟩
theorem ml_L_134 : Cond.methodLink RL 134 yX11_plan ∈ zB := zmem 1196 (by decide +kernel) rfl
theorem im_X11_plan : Cond.instanceMethod yX11_plan ∈ zB := zmem 1197 (by decide +kernel) rfl
theorem se_X11_plan : Cond.selects yX11_plan.cls yX11_plan yX11_plan ∈ zB := zmem 1198 (by decide +kernel) rfl
theorem md_X12_plan : zMd yX12_plan cX12_plan 6 2 (some .int) := ⟨zmw (zmt_8 _ (List.mem_of_getElem? (i := 137) rfl)) rfl, zmem 127 (by decide +kernel) rfl, by decide, by decide, by decide +kernel, by decide⟩
theorem ml_L_137 : Cond.methodLink RL 137 yX12_plan ∈ zB := zmem 1925 (by decide +kernel) rfl
theorem im_X12_plan : Cond.instanceMethod yX12_plan ∈ zB := zmem 1926 (by decide +kernel) rfl
theorem se_X12_plan : Cond.selects yX12_plan.cls yX12_plan yX12_plan ∈ zB := zmem 1927 (by decide +kernel) rfl
theorem md_X11_count : zMd yX11_count cX11_count 2 1 (some .int) := ⟨zmw (zmt_5 _ (List.mem_of_getElem? (i := 178) rfl)) rfl, zmem 112 (by decide +kernel) rfl, by decide, by decide, by decide +kernel, by decide⟩
theorem ml_L_138 : Cond.methodLink RL 138 yX11_count ∈ zB := zmem 1246 (by decide +kernel) rfl
theorem im_X11_count : Cond.instanceMethod yX11_count ∈ zB := zmem 1247 (by decide +kernel) rfl
theorem se_X11_count : Cond.selects yX11_count.cls yX11_count yX11_count ∈ zB := zmem 1248 (by decide +kernel) rfl
theorem md_X12_count : zMd yX12_count cX12_count 2 1 (some .int) := ⟨zmw (zmt_8 _ (List.mem_of_getElem? (i := 161) rfl)) rfl, zmem 127 (by decide +kernel) rfl, by decide, by decide, by decide +kernel, by decide⟩
theorem ml_L_141 : Cond.methodLink RL 141 yX12_count ∈ zB := zmem 1949 (by decide +kernel) rfl
theorem im_X12_count : Cond.instanceMethod yX12_count ∈ zB := zmem 1950 (by decide +kernel) rfl
theorem se_X12_count : Cond.selects yX12_count.cls yX12_count yX12_count ∈ zB := zmem 1951 (by decide +kernel) rfl
theorem ck_L_8 : Cond.classLink RL 8 RX11 ∈ zB := zmem 138 (by decide +kernel) rfl
theorem in_X11 : Cond.instantiable RX11 13 ∈ zB := zmem 139 (by decide +kernel) rfl
theorem it_X11 : Cond.initialized RX11 ∈ zB := zmem 112 (by decide +kernel) rfl
theorem md_X11_init : zMd yX11_init cX11_init 1 0 none := ⟨zmw (zmt_1 _ (List.mem_of_getElem? (i := 31) rfl)) rfl, zmem 112 (by decide +kernel) rfl, by decide, by decide, by decide +kernel, by decide⟩
theorem ml_L_15 : Cond.methodLink RL 15 yX11_init ∈ zB := zmem 140 (by decide +kernel) rfl
theorem im_X11_init : Cond.instanceMethod yX11_init ∈ zB := zmem 141 (by decide +kernel) rfl
theorem ck_L_16 : Cond.classLink RL 16 RX12 ∈ zB := zmem 1344 (by decide +kernel) rfl
theorem in_X12 : Cond.instantiable RX12 80 ∈ zB := zmem 1342 (by decide +kernel) rfl
theorem it_X12 : Cond.initialized RX12 ∈ zB := zmem 127 (by decide +kernel) rfl
theorem md_X12_init : zMd yX12_init cX12_init 2 0 none := ⟨zmw (zmt_6 _ (List.mem_of_getElem? (i := 36) rfl)) rfl, zmem 127 (by decide +kernel) rfl, by decide, by decide, by decide +kernel, by decide⟩
theorem ml_L_18 : Cond.methodLink RL 18 yX12_init ∈ zB := zmem 1345 (by decide +kernel) rfl
theorem im_X12_init : Cond.instanceMethod yX12_init ∈ zB := zmem 1346 (by decide +kernel) rfl
def c_L_0 (N v0 v1 v2 : Nat) (v4 : Int32) (h : zH) : Option zH := (aI h v0 (v4 + 1)).bind fun x1 => zif (zob h v1 11) <| (f_X11_years N v1 x1 h).bind fun q3 => (aI q3.2 v0 (v4 + 1)).bind fun x4 => zif (zob q3.2 v2 12) <| (f_X12_years N v2 x4 q3.2).bind fun q6 => some q6.2
set_option maxRecDepth 100000 in
set_option maxHeartbeats 4000000 in
theorem kc_L_0 {N d mc ms v0 v1 v2 v3 : Nat} {v4 : Int32} {h h2 : zH} {vv : Option Value} {hh : zH} (hd0 : 3 ≤ d) (H : c_L_0 N v0 v1 v2 v4 h = some h2) (K : zW yL_law cL_law 7 (some .boolean) d mc ms 1470 [(0, .ref v0), (1, .ref v1), (2, .ref v2), (3, .ref v3), (4, .int v4)] [] h2 vv hh) : zW yL_law cL_law 7 (some .boolean) d (mc + 0) (ms + 0) 164 [(0, .ref v0), (1, .ref v1), (2, .ref v2), (3, .ref v3), (4, .int v4)] [] h vv hh := by
  unfold c_L_0 at H
  refine z_aload_n (pc := 164) 1 dL_law_164 rfl rfl ?_
  refine z_aload_n (pc := 165) 0 dL_law_165 rfl rfl ?_
  refine z_iload (pc := 166) 4 dL_law_166 rfl ?_
  refine z_iconst (pc := 168) (x := 1) dL_law_168 zc_iconst_1 ?_
  refine z_iadd (pc := 169) dL_law_169 ?_
  obtain ⟨x1, ex1, H⟩ := zbind H
  refine z_iaload (pc := 170) dL_law_170 ex1 ?_
  obtain ⟨z2, H⟩ := zifE H
  obtain ⟨q3, eq3, H⟩ := zbind H
  refine z_callV (pc := 171) (mc := mc) (ms := ms) (d' := 1) (mc' := 0) (ms' := 0) (rest := []) [.int x1] dL_law_171 md_X11_years ml_L_19 im_X11_years se_X11_years rfl z2 rfl rfl (Nat.le_of_ble_eq_true rfl) (by omega) (k_X11_years eq3) ?_
  refine z_pop (pc := 174) dL_law_174 rfl ?_
  refine z_aload_n (pc := 175) 2 dL_law_175 rfl rfl ?_
  refine z_aload_n (pc := 176) 0 dL_law_176 rfl rfl ?_
  refine z_iload (pc := 177) 4 dL_law_177 rfl ?_
  refine z_iconst (pc := 179) (x := 1) dL_law_179 zc_iconst_1 ?_
  refine z_iadd (pc := 180) dL_law_180 ?_
  obtain ⟨x4, ex4, H⟩ := zbind H
  refine z_iaload (pc := 181) dL_law_181 ex4 ?_
  obtain ⟨z5, H⟩ := zifE H
  obtain ⟨q6, eq6, H⟩ := zbind H
  refine z_callV (pc := 182) (mc := mc) (ms := ms) (d' := 2) (mc' := 0) (ms' := 0) (rest := []) [.int x4] dL_law_182 md_X12_years ml_L_23 im_X12_years se_X12_years rfl z5 rfl rfl (Nat.le_of_ble_eq_true rfl) (by omega) (k_X12_years eq6) ?_
  refine z_pop (pc := 185) dL_law_185 rfl ?_
  refine z_goto (pc := 186) 1470 dL_law_186 (by decide) ?_
  cases H
  exact z_mono (Nat.le_refl _) (by omega) (by omega) (z_sub [0, 1, 2, 3, 4] rfl K)
def c_L_1 (N v0 v1 v2 : Nat) (v4 : Int32) (h : zH) : Option zH := (aI h v0 (v4 + 1)).bind fun x1 => zif (zob h v1 11) <| (f_X11_view N v1 x1 h).bind fun q3 => (aI q3.2 v0 (v4 + 1)).bind fun x4 => zif (zob q3.2 v2 12) <| (f_X12_view N v2 x4 q3.2).bind fun q6 => some q6.2
set_option maxRecDepth 100000 in
set_option maxHeartbeats 4000000 in
theorem kc_L_1 {N d mc ms v0 v1 v2 v3 : Nat} {v4 : Int32} {h h2 : zH} {vv : Option Value} {hh : zH} (hd0 : 2 ≤ d) (H : c_L_1 N v0 v1 v2 v4 h = some h2) (K : zW yL_law cL_law 7 (some .boolean) d mc ms 1470 [(0, .ref v0), (1, .ref v1), (2, .ref v2), (3, .ref v3), (4, .int v4)] [] h2 vv hh) : zW yL_law cL_law 7 (some .boolean) d (mc + 0) (ms + 0) 189 [(0, .ref v0), (1, .ref v1), (2, .ref v2), (3, .ref v3), (4, .int v4)] [] h vv hh := by
  unfold c_L_1 at H
  refine z_aload_n (pc := 189) 1 dL_law_189 rfl rfl ?_
  refine z_aload_n (pc := 190) 0 dL_law_190 rfl rfl ?_
  refine z_iload (pc := 191) 4 dL_law_191 rfl ?_
  refine z_iconst (pc := 193) (x := 1) dL_law_193 zc_iconst_1 ?_
  refine z_iadd (pc := 194) dL_law_194 ?_
  obtain ⟨x1, ex1, H⟩ := zbind H
  refine z_iaload (pc := 195) dL_law_195 ex1 ?_
  obtain ⟨z2, H⟩ := zifE H
  obtain ⟨q3, eq3, H⟩ := zbind H
  refine z_callV (pc := 196) (mc := mc) (ms := ms) (d' := 1) (mc' := 0) (ms' := 0) (rest := []) [.int x1] dL_law_196 md_X11_view ml_L_24 im_X11_view se_X11_view rfl z2 rfl rfl (Nat.le_of_ble_eq_true rfl) (by omega) (k_X11_view eq3) ?_
  refine z_pop (pc := 199) dL_law_199 rfl ?_
  refine z_aload_n (pc := 200) 2 dL_law_200 rfl rfl ?_
  refine z_aload_n (pc := 201) 0 dL_law_201 rfl rfl ?_
  refine z_iload (pc := 202) 4 dL_law_202 rfl ?_
  refine z_iconst (pc := 204) (x := 1) dL_law_204 zc_iconst_1 ?_
  refine z_iadd (pc := 205) dL_law_205 ?_
  obtain ⟨x4, ex4, H⟩ := zbind H
  refine z_iaload (pc := 206) dL_law_206 ex4 ?_
  obtain ⟨z5, H⟩ := zifE H
  obtain ⟨q6, eq6, H⟩ := zbind H
  refine z_callV (pc := 207) (mc := mc) (ms := ms) (d' := 1) (mc' := 0) (ms' := 0) (rest := []) [.int x4] dL_law_207 md_X12_view ml_L_28 im_X12_view se_X12_view rfl z5 rfl rfl (Nat.le_of_ble_eq_true rfl) (by omega) (k_X12_view eq6) ?_
  refine z_pop (pc := 210) dL_law_210 rfl ?_
  refine z_goto (pc := 211) 1470 dL_law_211 (by decide) ?_
  cases H
  exact z_mono (Nat.le_refl _) (by omega) (by omega) (z_sub [0, 1, 2, 3, 4] rfl K)
def c_L_2 (N v0 v1 v2 : Nat) (v4 : Int32) (h : zH) : Option zH := (aI h v0 (v4 + 1)).bind fun x1 => (aI h v0 (v4 + 2)).bind fun x2 => (aI h v0 (v4 + 3)).bind fun x3 => (aI h v0 (v4 + 4)).bind fun x4 => (aI h v0 (v4 + 5)).bind fun x5 => (aI h v0 (v4 + 6)).bind fun x6 => (aI h v0 (v4 + 7)).bind fun x7 => zif (zob h v1 11) <| (f_X11_meeting N v1 x1 x2 x3 x4 x5 x6 x7 h).bind fun q9 => (aI q9.2 v0 (v4 + 1)).bind fun x10 => (aI q9.2 v0 (v4 + 2)).bind fun x11 => (aI q9.2 v0 (v4 + 3)).bind fun x12 => (aI q9.2 v0 (v4 + 4)).bind fun x13 => (aI q9.2 v0 (v4 + 5)).bind fun x14 => (aI q9.2 v0 (v4 + 6)).bind fun x15 => (aI q9.2 v0 (v4 + 7)).bind fun x16 => zif (zob q9.2 v2 12) <| (f_X12_meeting N v2 x10 x11 x12 x13 x14 x15 x16 q9.2).bind fun q18 => some q18.2
set_option maxRecDepth 100000 in
set_option maxHeartbeats 4000000 in
theorem kc_L_2 {N d mc ms v0 v1 v2 v3 : Nat} {v4 : Int32} {h h2 : zH} {vv : Option Value} {hh : zH} (hd0 : 6 ≤ d) (H : c_L_2 N v0 v1 v2 v4 h = some h2) (K : zW yL_law cL_law 7 (some .boolean) d mc ms 1470 [(0, .ref v0), (1, .ref v1), (2, .ref v2), (3, .ref v3), (4, .int v4)] [] h2 vv hh) : zW yL_law cL_law 7 (some .boolean) d (mc + 1) (ms + 16) 214 [(0, .ref v0), (1, .ref v1), (2, .ref v2), (3, .ref v3), (4, .int v4)] [] h vv hh := by
  unfold c_L_2 at H
  refine z_aload_n (pc := 214) 1 dL_law_214 rfl rfl ?_
  refine z_aload_n (pc := 215) 0 dL_law_215 rfl rfl ?_
  refine z_iload (pc := 216) 4 dL_law_216 rfl ?_
  refine z_iconst (pc := 218) (x := 1) dL_law_218 zc_iconst_1 ?_
  refine z_iadd (pc := 219) dL_law_219 ?_
  obtain ⟨x1, ex1, H⟩ := zbind H
  refine z_iaload (pc := 220) dL_law_220 ex1 ?_
  refine z_aload_n (pc := 221) 0 dL_law_221 rfl rfl ?_
  refine z_iload (pc := 222) 4 dL_law_222 rfl ?_
  refine z_iconst (pc := 224) (x := 2) dL_law_224 zc_iconst_2 ?_
  refine z_iadd (pc := 225) dL_law_225 ?_
  obtain ⟨x2, ex2, H⟩ := zbind H
  refine z_iaload (pc := 226) dL_law_226 ex2 ?_
  refine z_aload_n (pc := 227) 0 dL_law_227 rfl rfl ?_
  refine z_iload (pc := 228) 4 dL_law_228 rfl ?_
  refine z_iconst (pc := 230) (x := 3) dL_law_230 zc_iconst_3 ?_
  refine z_iadd (pc := 231) dL_law_231 ?_
  obtain ⟨x3, ex3, H⟩ := zbind H
  refine z_iaload (pc := 232) dL_law_232 ex3 ?_
  refine z_aload_n (pc := 233) 0 dL_law_233 rfl rfl ?_
  refine z_iload (pc := 234) 4 dL_law_234 rfl ?_
  refine z_iconst (pc := 236) (x := 4) dL_law_236 zc_iconst_4 ?_
  refine z_iadd (pc := 237) dL_law_237 ?_
  obtain ⟨x4, ex4, H⟩ := zbind H
  refine z_iaload (pc := 238) dL_law_238 ex4 ?_
  refine z_aload_n (pc := 239) 0 dL_law_239 rfl rfl ?_
  refine z_iload (pc := 240) 4 dL_law_240 rfl ?_
  refine z_iconst (pc := 242) (x := 5) dL_law_242 zc_iconst_5 ?_
  refine z_iadd (pc := 243) dL_law_243 ?_
  obtain ⟨x5, ex5, H⟩ := zbind H
  refine z_iaload (pc := 244) dL_law_244 ex5 ?_
  refine z_aload_n (pc := 245) 0 dL_law_245 rfl rfl ?_
  refine z_iload (pc := 246) 4 dL_law_246 rfl ?_
  refine z_bipush (pc := 248) (x := 6) dL_law_248 zc_bipush_6 ?_
  refine z_iadd (pc := 250) dL_law_250 ?_
  obtain ⟨x6, ex6, H⟩ := zbind H
  refine z_iaload (pc := 251) dL_law_251 ex6 ?_
  refine z_aload_n (pc := 252) 0 dL_law_252 rfl rfl ?_
  refine z_iload (pc := 253) 4 dL_law_253 rfl ?_
  refine z_bipush (pc := 255) (x := 7) dL_law_255 zc_bipush_7 ?_
  refine z_iadd (pc := 257) dL_law_257 ?_
  obtain ⟨x7, ex7, H⟩ := zbind H
  refine z_iaload (pc := 258) dL_law_258 ex7 ?_
  obtain ⟨z8, H⟩ := zifE H
  obtain ⟨q9, eq9, H⟩ := zbind H
  refine z_callV (pc := 259) (mc := mc) (ms := ms) (d' := 5) (mc' := 1) (ms' := 16) (rest := []) [.int x1, .int x2, .int x3, .int x4, .int x5, .int x6, .int x7] dL_law_259 md_X11_meeting ml_L_29 im_X11_meeting se_X11_meeting rfl z8 rfl rfl (Nat.le_of_ble_eq_true rfl) (by omega) (k_X11_meeting eq9) ?_
  refine z_pop (pc := 262) dL_law_262 rfl ?_
  refine z_aload_n (pc := 263) 2 dL_law_263 rfl rfl ?_
  refine z_aload_n (pc := 264) 0 dL_law_264 rfl rfl ?_
  refine z_iload (pc := 265) 4 dL_law_265 rfl ?_
  refine z_iconst (pc := 267) (x := 1) dL_law_267 zc_iconst_1 ?_
  refine z_iadd (pc := 268) dL_law_268 ?_
  obtain ⟨x10, ex10, H⟩ := zbind H
  refine z_iaload (pc := 269) dL_law_269 ex10 ?_
  refine z_aload_n (pc := 270) 0 dL_law_270 rfl rfl ?_
  refine z_iload (pc := 271) 4 dL_law_271 rfl ?_
  refine z_iconst (pc := 273) (x := 2) dL_law_273 zc_iconst_2 ?_
  refine z_iadd (pc := 274) dL_law_274 ?_
  obtain ⟨x11, ex11, H⟩ := zbind H
  refine z_iaload (pc := 275) dL_law_275 ex11 ?_
  refine z_aload_n (pc := 276) 0 dL_law_276 rfl rfl ?_
  refine z_iload (pc := 277) 4 dL_law_277 rfl ?_
  refine z_iconst (pc := 279) (x := 3) dL_law_279 zc_iconst_3 ?_
  refine z_iadd (pc := 280) dL_law_280 ?_
  obtain ⟨x12, ex12, H⟩ := zbind H
  refine z_iaload (pc := 281) dL_law_281 ex12 ?_
  refine z_aload_n (pc := 282) 0 dL_law_282 rfl rfl ?_
  refine z_iload (pc := 283) 4 dL_law_283 rfl ?_
  refine z_iconst (pc := 285) (x := 4) dL_law_285 zc_iconst_4 ?_
  refine z_iadd (pc := 286) dL_law_286 ?_
  obtain ⟨x13, ex13, H⟩ := zbind H
  refine z_iaload (pc := 287) dL_law_287 ex13 ?_
  refine z_aload_n (pc := 288) 0 dL_law_288 rfl rfl ?_
  refine z_iload (pc := 289) 4 dL_law_289 rfl ?_
  refine z_iconst (pc := 291) (x := 5) dL_law_291 zc_iconst_5 ?_
  refine z_iadd (pc := 292) dL_law_292 ?_
  obtain ⟨x14, ex14, H⟩ := zbind H
  refine z_iaload (pc := 293) dL_law_293 ex14 ?_
  refine z_aload_n (pc := 294) 0 dL_law_294 rfl rfl ?_
  refine z_iload (pc := 295) 4 dL_law_295 rfl ?_
  refine z_bipush (pc := 297) (x := 6) dL_law_297 zc_bipush_6 ?_
  refine z_iadd (pc := 299) dL_law_299 ?_
  obtain ⟨x15, ex15, H⟩ := zbind H
  refine z_iaload (pc := 300) dL_law_300 ex15 ?_
  refine z_aload_n (pc := 301) 0 dL_law_301 rfl rfl ?_
  refine z_iload (pc := 302) 4 dL_law_302 rfl ?_
  refine z_bipush (pc := 304) (x := 7) dL_law_304 zc_bipush_7 ?_
  refine z_iadd (pc := 306) dL_law_306 ?_
  obtain ⟨x16, ex16, H⟩ := zbind H
  refine z_iaload (pc := 307) dL_law_307 ex16 ?_
  obtain ⟨z17, H⟩ := zifE H
  obtain ⟨q18, eq18, H⟩ := zbind H
  refine z_callV (pc := 308) (mc := mc) (ms := ms) (d' := 1) (mc' := 0) (ms' := 0) (rest := []) [.int x10, .int x11, .int x12, .int x13, .int x14, .int x15, .int x16] dL_law_308 md_X12_meeting ml_L_33 im_X12_meeting se_X12_meeting rfl z17 rfl rfl (Nat.le_of_ble_eq_true rfl) (by omega) (k_X12_meeting eq18) ?_
  refine z_pop (pc := 311) dL_law_311 rfl ?_
  refine z_goto (pc := 312) 1470 dL_law_312 (by decide) ?_
  cases H
  exact z_mono (Nat.le_refl _) (by omega) (by omega) (z_sub [0, 1, 2, 3, 4] rfl K)
def c_L_3 (N v0 v1 v2 : Nat) (v4 : Int32) (h : zH) : Option zH := (aI h v0 (v4 + 1)).bind fun x1 => (aI h v0 (v4 + 2)).bind fun x2 => (aI h v0 (v4 + 3)).bind fun x3 => (aI h v0 (v4 + 4)).bind fun x4 => (aI h v0 (v4 + 5)).bind fun x5 => zif (zob h v1 11) <| (f_X11_stand N v1 x1 x2 x3 x4 x5 h).bind fun q7 => (aI q7.2 v0 (v4 + 1)).bind fun x8 => (aI q7.2 v0 (v4 + 2)).bind fun x9 => (aI q7.2 v0 (v4 + 3)).bind fun x10 => (aI q7.2 v0 (v4 + 4)).bind fun x11 => (aI q7.2 v0 (v4 + 5)).bind fun x12 => zif (zob q7.2 v2 12) <| (f_X12_stand N v2 x8 x9 x10 x11 x12 q7.2).bind fun q14 => some q14.2
set_option maxRecDepth 100000 in
set_option maxHeartbeats 4000000 in
theorem kc_L_3 {N d mc ms v0 v1 v2 v3 : Nat} {v4 : Int32} {h h2 : zH} {vv : Option Value} {hh : zH} (hd0 : 6 ≤ d) (H : c_L_3 N v0 v1 v2 v4 h = some h2) (K : zW yL_law cL_law 7 (some .boolean) d mc ms 1470 [(0, .ref v0), (1, .ref v1), (2, .ref v2), (3, .ref v3), (4, .int v4)] [] h2 vv hh) : zW yL_law cL_law 7 (some .boolean) d (mc + 0) (ms + 0) 315 [(0, .ref v0), (1, .ref v1), (2, .ref v2), (3, .ref v3), (4, .int v4)] [] h vv hh := by
  unfold c_L_3 at H
  refine z_aload_n (pc := 315) 1 dL_law_315 rfl rfl ?_
  refine z_aload_n (pc := 316) 0 dL_law_316 rfl rfl ?_
  refine z_iload (pc := 317) 4 dL_law_317 rfl ?_
  refine z_iconst (pc := 319) (x := 1) dL_law_319 zc_iconst_1 ?_
  refine z_iadd (pc := 320) dL_law_320 ?_
  obtain ⟨x1, ex1, H⟩ := zbind H
  refine z_iaload (pc := 321) dL_law_321 ex1 ?_
  refine z_aload_n (pc := 322) 0 dL_law_322 rfl rfl ?_
  refine z_iload (pc := 323) 4 dL_law_323 rfl ?_
  refine z_iconst (pc := 325) (x := 2) dL_law_325 zc_iconst_2 ?_
  refine z_iadd (pc := 326) dL_law_326 ?_
  obtain ⟨x2, ex2, H⟩ := zbind H
  refine z_iaload (pc := 327) dL_law_327 ex2 ?_
  refine z_aload_n (pc := 328) 0 dL_law_328 rfl rfl ?_
  refine z_iload (pc := 329) 4 dL_law_329 rfl ?_
  refine z_iconst (pc := 331) (x := 3) dL_law_331 zc_iconst_3 ?_
  refine z_iadd (pc := 332) dL_law_332 ?_
  obtain ⟨x3, ex3, H⟩ := zbind H
  refine z_iaload (pc := 333) dL_law_333 ex3 ?_
  refine z_aload_n (pc := 334) 0 dL_law_334 rfl rfl ?_
  refine z_iload (pc := 335) 4 dL_law_335 rfl ?_
  refine z_iconst (pc := 337) (x := 4) dL_law_337 zc_iconst_4 ?_
  refine z_iadd (pc := 338) dL_law_338 ?_
  obtain ⟨x4, ex4, H⟩ := zbind H
  refine z_iaload (pc := 339) dL_law_339 ex4 ?_
  refine z_aload_n (pc := 340) 0 dL_law_340 rfl rfl ?_
  refine z_iload (pc := 341) 4 dL_law_341 rfl ?_
  refine z_iconst (pc := 343) (x := 5) dL_law_343 zc_iconst_5 ?_
  refine z_iadd (pc := 344) dL_law_344 ?_
  obtain ⟨x5, ex5, H⟩ := zbind H
  refine z_iaload (pc := 345) dL_law_345 ex5 ?_
  obtain ⟨z6, H⟩ := zifE H
  obtain ⟨q7, eq7, H⟩ := zbind H
  refine z_callV (pc := 346) (mc := mc) (ms := ms) (d' := 5) (mc' := 0) (ms' := 0) (rest := []) [.int x1, .int x2, .int x3, .int x4, .int x5] dL_law_346 md_X11_stand ml_L_34 im_X11_stand se_X11_stand rfl z6 rfl rfl (Nat.le_of_ble_eq_true rfl) (by omega) (k_X11_stand eq7) ?_
  refine z_pop (pc := 349) dL_law_349 rfl ?_
  refine z_aload_n (pc := 350) 2 dL_law_350 rfl rfl ?_
  refine z_aload_n (pc := 351) 0 dL_law_351 rfl rfl ?_
  refine z_iload (pc := 352) 4 dL_law_352 rfl ?_
  refine z_iconst (pc := 354) (x := 1) dL_law_354 zc_iconst_1 ?_
  refine z_iadd (pc := 355) dL_law_355 ?_
  obtain ⟨x8, ex8, H⟩ := zbind H
  refine z_iaload (pc := 356) dL_law_356 ex8 ?_
  refine z_aload_n (pc := 357) 0 dL_law_357 rfl rfl ?_
  refine z_iload (pc := 358) 4 dL_law_358 rfl ?_
  refine z_iconst (pc := 360) (x := 2) dL_law_360 zc_iconst_2 ?_
  refine z_iadd (pc := 361) dL_law_361 ?_
  obtain ⟨x9, ex9, H⟩ := zbind H
  refine z_iaload (pc := 362) dL_law_362 ex9 ?_
  refine z_aload_n (pc := 363) 0 dL_law_363 rfl rfl ?_
  refine z_iload (pc := 364) 4 dL_law_364 rfl ?_
  refine z_iconst (pc := 366) (x := 3) dL_law_366 zc_iconst_3 ?_
  refine z_iadd (pc := 367) dL_law_367 ?_
  obtain ⟨x10, ex10, H⟩ := zbind H
  refine z_iaload (pc := 368) dL_law_368 ex10 ?_
  refine z_aload_n (pc := 369) 0 dL_law_369 rfl rfl ?_
  refine z_iload (pc := 370) 4 dL_law_370 rfl ?_
  refine z_iconst (pc := 372) (x := 4) dL_law_372 zc_iconst_4 ?_
  refine z_iadd (pc := 373) dL_law_373 ?_
  obtain ⟨x11, ex11, H⟩ := zbind H
  refine z_iaload (pc := 374) dL_law_374 ex11 ?_
  refine z_aload_n (pc := 375) 0 dL_law_375 rfl rfl ?_
  refine z_iload (pc := 376) 4 dL_law_376 rfl ?_
  refine z_iconst (pc := 378) (x := 5) dL_law_378 zc_iconst_5 ?_
  refine z_iadd (pc := 379) dL_law_379 ?_
  obtain ⟨x12, ex12, H⟩ := zbind H
  refine z_iaload (pc := 380) dL_law_380 ex12 ?_
  obtain ⟨z13, H⟩ := zifE H
  obtain ⟨q14, eq14, H⟩ := zbind H
  refine z_callV (pc := 381) (mc := mc) (ms := ms) (d' := 1) (mc' := 0) (ms' := 0) (rest := []) [.int x8, .int x9, .int x10, .int x11, .int x12] dL_law_381 md_X12_stand ml_L_38 im_X12_stand se_X12_stand rfl z13 rfl rfl (Nat.le_of_ble_eq_true rfl) (by omega) (k_X12_stand eq14) ?_
  refine z_pop (pc := 384) dL_law_384 rfl ?_
  refine z_goto (pc := 385) 1470 dL_law_385 (by decide) ?_
  cases H
  exact z_mono (Nat.le_refl _) (by omega) (by omega) (z_sub [0, 1, 2, 3, 4] rfl K)
def c_L_4 (N v0 v1 v2 : Nat) (v4 : Int32) (h : zH) : Option zH := (aI h v0 (v4 + 1)).bind fun x1 => (aI h v0 (v4 + 2)).bind fun x2 => zif (zob h v1 11) <| (f_X11_look N v1 x1 x2 h).bind fun q4 => (aI q4.2 v0 (v4 + 1)).bind fun x5 => (aI q4.2 v0 (v4 + 2)).bind fun x6 => zif (zob q4.2 v2 12) <| (f_X12_look N v2 x5 x6 q4.2).bind fun q8 => some q8.2
set_option maxRecDepth 100000 in
set_option maxHeartbeats 4000000 in
theorem kc_L_4 {N d mc ms v0 v1 v2 v3 : Nat} {v4 : Int32} {h h2 : zH} {vv : Option Value} {hh : zH} (hd0 : 7 ≤ d) (H : c_L_4 N v0 v1 v2 v4 h = some h2) (K : zW yL_law cL_law 7 (some .boolean) d mc ms 1470 [(0, .ref v0), (1, .ref v1), (2, .ref v2), (3, .ref v3), (4, .int v4)] [] h2 vv hh) : zW yL_law cL_law 7 (some .boolean) d (mc + 0) (ms + 0) 388 [(0, .ref v0), (1, .ref v1), (2, .ref v2), (3, .ref v3), (4, .int v4)] [] h vv hh := by
  unfold c_L_4 at H
  refine z_aload_n (pc := 388) 1 dL_law_388 rfl rfl ?_
  refine z_aload_n (pc := 389) 0 dL_law_389 rfl rfl ?_
  refine z_iload (pc := 390) 4 dL_law_390 rfl ?_
  refine z_iconst (pc := 392) (x := 1) dL_law_392 zc_iconst_1 ?_
  refine z_iadd (pc := 393) dL_law_393 ?_
  obtain ⟨x1, ex1, H⟩ := zbind H
  refine z_iaload (pc := 394) dL_law_394 ex1 ?_
  refine z_aload_n (pc := 395) 0 dL_law_395 rfl rfl ?_
  refine z_iload (pc := 396) 4 dL_law_396 rfl ?_
  refine z_iconst (pc := 398) (x := 2) dL_law_398 zc_iconst_2 ?_
  refine z_iadd (pc := 399) dL_law_399 ?_
  obtain ⟨x2, ex2, H⟩ := zbind H
  refine z_iaload (pc := 400) dL_law_400 ex2 ?_
  obtain ⟨z3, H⟩ := zifE H
  obtain ⟨q4, eq4, H⟩ := zbind H
  refine z_callV (pc := 401) (mc := mc) (ms := ms) (d' := 6) (mc' := 0) (ms' := 0) (rest := []) [.int x1, .int x2] dL_law_401 md_X11_look ml_L_39 im_X11_look se_X11_look rfl z3 rfl rfl (Nat.le_of_ble_eq_true rfl) (by omega) (k_X11_look eq4) ?_
  refine z_pop (pc := 404) dL_law_404 rfl ?_
  refine z_aload_n (pc := 405) 2 dL_law_405 rfl rfl ?_
  refine z_aload_n (pc := 406) 0 dL_law_406 rfl rfl ?_
  refine z_iload (pc := 407) 4 dL_law_407 rfl ?_
  refine z_iconst (pc := 409) (x := 1) dL_law_409 zc_iconst_1 ?_
  refine z_iadd (pc := 410) dL_law_410 ?_
  obtain ⟨x5, ex5, H⟩ := zbind H
  refine z_iaload (pc := 411) dL_law_411 ex5 ?_
  refine z_aload_n (pc := 412) 0 dL_law_412 rfl rfl ?_
  refine z_iload (pc := 413) 4 dL_law_413 rfl ?_
  refine z_iconst (pc := 415) (x := 2) dL_law_415 zc_iconst_2 ?_
  refine z_iadd (pc := 416) dL_law_416 ?_
  obtain ⟨x6, ex6, H⟩ := zbind H
  refine z_iaload (pc := 417) dL_law_417 ex6 ?_
  obtain ⟨z7, H⟩ := zifE H
  obtain ⟨q8, eq8, H⟩ := zbind H
  refine z_callV (pc := 418) (mc := mc) (ms := ms) (d' := 3) (mc' := 0) (ms' := 0) (rest := []) [.int x5, .int x6] dL_law_418 md_X12_look ml_L_43 im_X12_look se_X12_look rfl z7 rfl rfl (Nat.le_of_ble_eq_true rfl) (by omega) (k_X12_look eq8) ?_
  refine z_pop (pc := 421) dL_law_421 rfl ?_
  refine z_goto (pc := 422) 1470 dL_law_422 (by decide) ?_
  cases H
  exact z_mono (Nat.le_refl _) (by omega) (by omega) (z_sub [0, 1, 2, 3, 4] rfl K)
def c_L_6 (N v0 v1 v2 : Nat) (v4 : Int32) (h : zH) : Option zH := (aI h v0 (v4 + 1)).bind fun x1 => (aI h v0 (v4 + 2)).bind fun x2 => (aI h v0 (v4 + 3)).bind fun x3 => (aI h v0 (v4 + 4)).bind fun x4 => (aI h v0 (v4 + 5)).bind fun x5 => (aI h v0 (v4 + 6)).bind fun x6 => zif (zob h v1 11) <| (f_X11_feed N v1 (((x1.toInt64) <<< ((32 : Int32).toInt64 &&& 63)) ||| ((x2.toInt64) &&& 4294967295)) (((x3.toInt64) <<< ((32 : Int32).toInt64 &&& 63)) ||| ((x4.toInt64) &&& 4294967295)) (((x5.toInt64) <<< ((32 : Int32).toInt64 &&& 63)) ||| ((x6.toInt64) &&& 4294967295)) h).bind fun q8 => (aI q8.2 v0 (v4 + 1)).bind fun x9 => (aI q8.2 v0 (v4 + 2)).bind fun x10 => (aI q8.2 v0 (v4 + 3)).bind fun x11 => (aI q8.2 v0 (v4 + 4)).bind fun x12 => (aI q8.2 v0 (v4 + 5)).bind fun x13 => (aI q8.2 v0 (v4 + 6)).bind fun x14 => zif (zob q8.2 v2 12) <| (f_X12_feed N v2 (((x9.toInt64) <<< ((32 : Int32).toInt64 &&& 63)) ||| ((x10.toInt64) &&& 4294967295)) (((x11.toInt64) <<< ((32 : Int32).toInt64 &&& 63)) ||| ((x12.toInt64) &&& 4294967295)) (((x13.toInt64) <<< ((32 : Int32).toInt64 &&& 63)) ||| ((x14.toInt64) &&& 4294967295)) q8.2).bind fun q16 => if q8.1 = q16.1 then (some q16.2) else (none)
set_option maxRecDepth 100000 in
set_option maxHeartbeats 4000000 in
theorem kc_L_6 {N d mc ms v0 v1 v2 v3 : Nat} {v4 : Int32} {h h2 : zH} {vv : Option Value} {hh : zH} (hd0 : 3 ≤ d) (H : c_L_6 N v0 v1 v2 v4 h = some h2) (K : zW yL_law cL_law 7 (some .boolean) d mc ms 1470 [(0, .ref v0), (1, .ref v1), (2, .ref v2), (3, .ref v3), (4, .int v4)] [] h2 vv hh) : zW yL_law cL_law 7 (some .boolean) d (mc + 0) (ms + 0) 477 [(0, .ref v0), (1, .ref v1), (2, .ref v2), (3, .ref v3), (4, .int v4)] [] h vv hh := by
  unfold c_L_6 at H
  refine z_aload_n (pc := 477) 1 dL_law_477 rfl rfl ?_
  refine z_aload_n (pc := 478) 0 dL_law_478 rfl rfl ?_
  refine z_iload (pc := 479) 4 dL_law_479 rfl ?_
  refine z_iconst (pc := 481) (x := 1) dL_law_481 zc_iconst_1 ?_
  refine z_iadd (pc := 482) dL_law_482 ?_
  obtain ⟨x1, ex1, H⟩ := zbind H
  refine z_iaload (pc := 483) dL_law_483 ex1 ?_
  refine z_i2l (pc := 484) dL_law_484 ?_
  refine z_bipush (pc := 485) (x := 32) dL_law_485 zc_bipush_32 ?_
  refine z_lshl (pc := 487) dL_law_487 ?_
  refine z_aload_n (pc := 488) 0 dL_law_488 rfl rfl ?_
  refine z_iload (pc := 489) 4 dL_law_489 rfl ?_
  refine z_iconst (pc := 491) (x := 2) dL_law_491 zc_iconst_2 ?_
  refine z_iadd (pc := 492) dL_law_492 ?_
  obtain ⟨x2, ex2, H⟩ := zbind H
  refine z_iaload (pc := 493) dL_law_493 ex2 ?_
  refine z_i2l (pc := 494) dL_law_494 ?_
  refine z_ldc2 (pc := 495) (x := 4294967295) dL_law_495 kl_L_50 ?_
  refine z_land (pc := 498) dL_law_498 ?_
  refine z_lor (pc := 499) dL_law_499 ?_
  refine z_aload_n (pc := 500) 0 dL_law_500 rfl rfl ?_
  refine z_iload (pc := 501) 4 dL_law_501 rfl ?_
  refine z_iconst (pc := 503) (x := 3) dL_law_503 zc_iconst_3 ?_
  refine z_iadd (pc := 504) dL_law_504 ?_
  obtain ⟨x3, ex3, H⟩ := zbind H
  refine z_iaload (pc := 505) dL_law_505 ex3 ?_
  refine z_i2l (pc := 506) dL_law_506 ?_
  refine z_bipush (pc := 507) (x := 32) dL_law_507 zc_bipush_32 ?_
  refine z_lshl (pc := 509) dL_law_509 ?_
  refine z_aload_n (pc := 510) 0 dL_law_510 rfl rfl ?_
  refine z_iload (pc := 511) 4 dL_law_511 rfl ?_
  refine z_iconst (pc := 513) (x := 4) dL_law_513 zc_iconst_4 ?_
  refine z_iadd (pc := 514) dL_law_514 ?_
  obtain ⟨x4, ex4, H⟩ := zbind H
  refine z_iaload (pc := 515) dL_law_515 ex4 ?_
  refine z_i2l (pc := 516) dL_law_516 ?_
  refine z_ldc2 (pc := 517) (x := 4294967295) dL_law_517 kl_L_50 ?_
  refine z_land (pc := 520) dL_law_520 ?_
  refine z_lor (pc := 521) dL_law_521 ?_
  refine z_aload_n (pc := 522) 0 dL_law_522 rfl rfl ?_
  refine z_iload (pc := 523) 4 dL_law_523 rfl ?_
  refine z_iconst (pc := 525) (x := 5) dL_law_525 zc_iconst_5 ?_
  refine z_iadd (pc := 526) dL_law_526 ?_
  obtain ⟨x5, ex5, H⟩ := zbind H
  refine z_iaload (pc := 527) dL_law_527 ex5 ?_
  refine z_i2l (pc := 528) dL_law_528 ?_
  refine z_bipush (pc := 529) (x := 32) dL_law_529 zc_bipush_32 ?_
  refine z_lshl (pc := 531) dL_law_531 ?_
  refine z_aload_n (pc := 532) 0 dL_law_532 rfl rfl ?_
  refine z_iload (pc := 533) 4 dL_law_533 rfl ?_
  refine z_bipush (pc := 535) (x := 6) dL_law_535 zc_bipush_6 ?_
  refine z_iadd (pc := 537) dL_law_537 ?_
  obtain ⟨x6, ex6, H⟩ := zbind H
  refine z_iaload (pc := 538) dL_law_538 ex6 ?_
  refine z_i2l (pc := 539) dL_law_539 ?_
  refine z_ldc2 (pc := 540) (x := 4294967295) dL_law_540 kl_L_50 ?_
  refine z_land (pc := 543) dL_law_543 ?_
  refine z_lor (pc := 544) dL_law_544 ?_
  obtain ⟨z7, H⟩ := zifE H
  obtain ⟨q8, eq8, H⟩ := zbind H
  refine z_callV (pc := 545) (mc := mc) (ms := ms) (d' := 2) (mc' := 0) (ms' := 0) (rest := []) [.long (((x1.toInt64) <<< ((32 : Int32).toInt64 &&& 63)) ||| ((x2.toInt64) &&& 4294967295)), .long (((x3.toInt64) <<< ((32 : Int32).toInt64 &&& 63)) ||| ((x4.toInt64) &&& 4294967295)), .long (((x5.toInt64) <<< ((32 : Int32).toInt64 &&& 63)) ||| ((x6.toInt64) &&& 4294967295))] dL_law_545 md_X11_feed ml_L_52 im_X11_feed se_X11_feed rfl z7 rfl rfl (Nat.le_of_ble_eq_true rfl) (by omega) (k_X11_feed eq8) ?_
  refine z_aload_n (pc := 548) 2 dL_law_548 rfl rfl ?_
  refine z_aload_n (pc := 549) 0 dL_law_549 rfl rfl ?_
  refine z_iload (pc := 550) 4 dL_law_550 rfl ?_
  refine z_iconst (pc := 552) (x := 1) dL_law_552 zc_iconst_1 ?_
  refine z_iadd (pc := 553) dL_law_553 ?_
  obtain ⟨x9, ex9, H⟩ := zbind H
  refine z_iaload (pc := 554) dL_law_554 ex9 ?_
  refine z_i2l (pc := 555) dL_law_555 ?_
  refine z_bipush (pc := 556) (x := 32) dL_law_556 zc_bipush_32 ?_
  refine z_lshl (pc := 558) dL_law_558 ?_
  refine z_aload_n (pc := 559) 0 dL_law_559 rfl rfl ?_
  refine z_iload (pc := 560) 4 dL_law_560 rfl ?_
  refine z_iconst (pc := 562) (x := 2) dL_law_562 zc_iconst_2 ?_
  refine z_iadd (pc := 563) dL_law_563 ?_
  obtain ⟨x10, ex10, H⟩ := zbind H
  refine z_iaload (pc := 564) dL_law_564 ex10 ?_
  refine z_i2l (pc := 565) dL_law_565 ?_
  refine z_ldc2 (pc := 566) (x := 4294967295) dL_law_566 kl_L_50 ?_
  refine z_land (pc := 569) dL_law_569 ?_
  refine z_lor (pc := 570) dL_law_570 ?_
  refine z_aload_n (pc := 571) 0 dL_law_571 rfl rfl ?_
  refine z_iload (pc := 572) 4 dL_law_572 rfl ?_
  refine z_iconst (pc := 574) (x := 3) dL_law_574 zc_iconst_3 ?_
  refine z_iadd (pc := 575) dL_law_575 ?_
  obtain ⟨x11, ex11, H⟩ := zbind H
  refine z_iaload (pc := 576) dL_law_576 ex11 ?_
  refine z_i2l (pc := 577) dL_law_577 ?_
  refine z_bipush (pc := 578) (x := 32) dL_law_578 zc_bipush_32 ?_
  refine z_lshl (pc := 580) dL_law_580 ?_
  refine z_aload_n (pc := 581) 0 dL_law_581 rfl rfl ?_
  refine z_iload (pc := 582) 4 dL_law_582 rfl ?_
  refine z_iconst (pc := 584) (x := 4) dL_law_584 zc_iconst_4 ?_
  refine z_iadd (pc := 585) dL_law_585 ?_
  obtain ⟨x12, ex12, H⟩ := zbind H
  refine z_iaload (pc := 586) dL_law_586 ex12 ?_
  refine z_i2l (pc := 587) dL_law_587 ?_
  refine z_ldc2 (pc := 588) (x := 4294967295) dL_law_588 kl_L_50 ?_
  refine z_land (pc := 591) dL_law_591 ?_
  refine z_lor (pc := 592) dL_law_592 ?_
  refine z_aload_n (pc := 593) 0 dL_law_593 rfl rfl ?_
  refine z_iload (pc := 594) 4 dL_law_594 rfl ?_
  refine z_iconst (pc := 596) (x := 5) dL_law_596 zc_iconst_5 ?_
  refine z_iadd (pc := 597) dL_law_597 ?_
  obtain ⟨x13, ex13, H⟩ := zbind H
  refine z_iaload (pc := 598) dL_law_598 ex13 ?_
  refine z_i2l (pc := 599) dL_law_599 ?_
  refine z_bipush (pc := 600) (x := 32) dL_law_600 zc_bipush_32 ?_
  refine z_lshl (pc := 602) dL_law_602 ?_
  refine z_aload_n (pc := 603) 0 dL_law_603 rfl rfl ?_
  refine z_iload (pc := 604) 4 dL_law_604 rfl ?_
  refine z_bipush (pc := 606) (x := 6) dL_law_606 zc_bipush_6 ?_
  refine z_iadd (pc := 608) dL_law_608 ?_
  obtain ⟨x14, ex14, H⟩ := zbind H
  refine z_iaload (pc := 609) dL_law_609 ex14 ?_
  refine z_i2l (pc := 610) dL_law_610 ?_
  refine z_ldc2 (pc := 611) (x := 4294967295) dL_law_611 kl_L_50 ?_
  refine z_land (pc := 614) dL_law_614 ?_
  refine z_lor (pc := 615) dL_law_615 ?_
  obtain ⟨z15, H⟩ := zifE H
  obtain ⟨q16, eq16, H⟩ := zbind H
  refine z_callV (pc := 616) (mc := mc) (ms := ms) (d' := 1) (mc' := 0) (ms' := 0) (rest := [.int q8.1]) [.long (((x9.toInt64) <<< ((32 : Int32).toInt64 &&& 63)) ||| ((x10.toInt64) &&& 4294967295)), .long (((x11.toInt64) <<< ((32 : Int32).toInt64 &&& 63)) ||| ((x12.toInt64) &&& 4294967295)), .long (((x13.toInt64) <<< ((32 : Int32).toInt64 &&& 63)) ||| ((x14.toInt64) &&& 4294967295))] dL_law_616 md_X12_feed ml_L_56 im_X12_feed se_X12_feed rfl z15 rfl rfl (Nat.le_of_ble_eq_true rfl) (by omega) (k_X12_feed eq16) ?_
  refine z_icmp_eq (pc := 619) 1470 dL_law_619 (by decide) (fun c17 => ?_) (fun c17 => ?_)
  · rw [if_pos c17] at H
    cases H
    exact z_mono (Nat.le_refl _) (by omega) (by omega) (z_sub [0, 1, 2, 3, 4] rfl K)
  · rw [if_neg c17] at H
    refine z_iconst (pc := 622) (x := 0) dL_law_622 zc_iconst_0 ?_
    cases H
def c_L_7 (N v0 v1 v2 : Nat) (v4 : Int32) (h : zH) : Option zH := (aI h v0 (v4 + 1)).bind fun x1 => zif (zob h v1 11) <| (f_X11_law N v1 x1 h).bind fun q3 => (aI q3.2 v0 (v4 + 1)).bind fun x4 => zif (zob q3.2 v2 12) <| (f_X12_law N v2 x4 q3.2).bind fun q6 => some q6.2
set_option maxRecDepth 100000 in
set_option maxHeartbeats 4000000 in
theorem kc_L_7 {N d mc ms v0 v1 v2 v3 : Nat} {v4 : Int32} {h h2 : zH} {vv : Option Value} {hh : zH} (hd0 : 50 ≤ d) (H : c_L_7 N v0 v1 v2 v4 h = some h2) (K : zW yL_law cL_law 7 (some .boolean) d mc ms 1470 [(0, .ref v0), (1, .ref v1), (2, .ref v2), (3, .ref v3), (4, .int v4)] [] h2 vv hh) : zW yL_law cL_law 7 (some .boolean) d (mc + 2) (ms + 1003) 624 [(0, .ref v0), (1, .ref v1), (2, .ref v2), (3, .ref v3), (4, .int v4)] [] h vv hh := by
  unfold c_L_7 at H
  refine z_aload_n (pc := 624) 1 dL_law_624 rfl rfl ?_
  refine z_aload_n (pc := 625) 0 dL_law_625 rfl rfl ?_
  refine z_iload (pc := 626) 4 dL_law_626 rfl ?_
  refine z_iconst (pc := 628) (x := 1) dL_law_628 zc_iconst_1 ?_
  refine z_iadd (pc := 629) dL_law_629 ?_
  obtain ⟨x1, ex1, H⟩ := zbind H
  refine z_iaload (pc := 630) dL_law_630 ex1 ?_
  obtain ⟨z2, H⟩ := zifE H
  obtain ⟨q3, eq3, H⟩ := zbind H
  refine z_callV (pc := 631) (mc := mc) (ms := ms) (d' := 9) (mc' := 2) (ms' := 1003) (rest := []) [.int x1] dL_law_631 md_X11_law ml_L_57 im_X11_law se_X11_law rfl z2 rfl rfl (Nat.le_of_ble_eq_true rfl) (by omega) (k_X11_law eq3) ?_
  refine z_pop (pc := 634) dL_law_634 rfl ?_
  refine z_aload_n (pc := 635) 2 dL_law_635 rfl rfl ?_
  refine z_aload_n (pc := 636) 0 dL_law_636 rfl rfl ?_
  refine z_iload (pc := 637) 4 dL_law_637 rfl ?_
  refine z_iconst (pc := 639) (x := 1) dL_law_639 zc_iconst_1 ?_
  refine z_iadd (pc := 640) dL_law_640 ?_
  obtain ⟨x4, ex4, H⟩ := zbind H
  refine z_iaload (pc := 641) dL_law_641 ex4 ?_
  obtain ⟨z5, H⟩ := zifE H
  obtain ⟨q6, eq6, H⟩ := zbind H
  refine z_callV (pc := 642) (mc := mc) (ms := ms) (d' := 49) (mc' := 0) (ms' := 0) (rest := []) [.int x4] dL_law_642 md_X12_law ml_L_60 im_X12_law se_X12_law rfl z5 rfl rfl (Nat.le_of_ble_eq_true rfl) (by omega) (k_X12_law eq6) ?_
  refine z_pop (pc := 645) dL_law_645 rfl ?_
  refine z_goto (pc := 646) 1470 dL_law_646 (by decide) ?_
  cases H
  exact z_mono (Nat.le_refl _) (by omega) (by omega) (z_sub [0, 1, 2, 3, 4] rfl K)
def c_L_8 (N v0 v1 v2 : Nat) (v4 : Int32) (h : zH) : Option zH := (aI h v0 (v4 + 1)).bind fun x1 => (aI h v0 (v4 + 2)).bind fun x2 => (aI h v0 (v4 + 3)).bind fun x3 => zif (zob h v1 11) <| (f_X11_whose N v1 x1 x2 x3 h).bind fun q5 => (aI q5.2 v0 (v4 + 1)).bind fun x6 => (aI q5.2 v0 (v4 + 2)).bind fun x7 => (aI q5.2 v0 (v4 + 3)).bind fun x8 => zif (zob q5.2 v2 12) <| (f_X12_whose N v2 x6 x7 x8 q5.2).bind fun q10 => some q10.2
set_option maxRecDepth 100000 in
set_option maxHeartbeats 4000000 in
theorem kc_L_8 {N d mc ms v0 v1 v2 v3 : Nat} {v4 : Int32} {h h2 : zH} {vv : Option Value} {hh : zH} (hd0 : 8 ≤ d) (H : c_L_8 N v0 v1 v2 v4 h = some h2) (K : zW yL_law cL_law 7 (some .boolean) d mc ms 1470 [(0, .ref v0), (1, .ref v1), (2, .ref v2), (3, .ref v3), (4, .int v4)] [] h2 vv hh) : zW yL_law cL_law 7 (some .boolean) d (mc + 0) (ms + 0) 649 [(0, .ref v0), (1, .ref v1), (2, .ref v2), (3, .ref v3), (4, .int v4)] [] h vv hh := by
  unfold c_L_8 at H
  refine z_aload_n (pc := 649) 1 dL_law_649 rfl rfl ?_
  refine z_aload_n (pc := 650) 0 dL_law_650 rfl rfl ?_
  refine z_iload (pc := 651) 4 dL_law_651 rfl ?_
  refine z_iconst (pc := 653) (x := 1) dL_law_653 zc_iconst_1 ?_
  refine z_iadd (pc := 654) dL_law_654 ?_
  obtain ⟨x1, ex1, H⟩ := zbind H
  refine z_iaload (pc := 655) dL_law_655 ex1 ?_
  refine z_aload_n (pc := 656) 0 dL_law_656 rfl rfl ?_
  refine z_iload (pc := 657) 4 dL_law_657 rfl ?_
  refine z_iconst (pc := 659) (x := 2) dL_law_659 zc_iconst_2 ?_
  refine z_iadd (pc := 660) dL_law_660 ?_
  obtain ⟨x2, ex2, H⟩ := zbind H
  refine z_iaload (pc := 661) dL_law_661 ex2 ?_
  refine z_aload_n (pc := 662) 0 dL_law_662 rfl rfl ?_
  refine z_iload (pc := 663) 4 dL_law_663 rfl ?_
  refine z_iconst (pc := 665) (x := 3) dL_law_665 zc_iconst_3 ?_
  refine z_iadd (pc := 666) dL_law_666 ?_
  obtain ⟨x3, ex3, H⟩ := zbind H
  refine z_iaload (pc := 667) dL_law_667 ex3 ?_
  obtain ⟨z4, H⟩ := zifE H
  obtain ⟨q5, eq5, H⟩ := zbind H
  refine z_callV (pc := 668) (mc := mc) (ms := ms) (d' := 7) (mc' := 0) (ms' := 0) (rest := []) [.int x1, .int x2, .int x3] dL_law_668 md_X11_whose ml_L_61 im_X11_whose se_X11_whose rfl z4 rfl rfl (Nat.le_of_ble_eq_true rfl) (by omega) (k_X11_whose eq5) ?_
  refine z_pop (pc := 671) dL_law_671 rfl ?_
  refine z_aload_n (pc := 672) 2 dL_law_672 rfl rfl ?_
  refine z_aload_n (pc := 673) 0 dL_law_673 rfl rfl ?_
  refine z_iload (pc := 674) 4 dL_law_674 rfl ?_
  refine z_iconst (pc := 676) (x := 1) dL_law_676 zc_iconst_1 ?_
  refine z_iadd (pc := 677) dL_law_677 ?_
  obtain ⟨x6, ex6, H⟩ := zbind H
  refine z_iaload (pc := 678) dL_law_678 ex6 ?_
  refine z_aload_n (pc := 679) 0 dL_law_679 rfl rfl ?_
  refine z_iload (pc := 680) 4 dL_law_680 rfl ?_
  refine z_iconst (pc := 682) (x := 2) dL_law_682 zc_iconst_2 ?_
  refine z_iadd (pc := 683) dL_law_683 ?_
  obtain ⟨x7, ex7, H⟩ := zbind H
  refine z_iaload (pc := 684) dL_law_684 ex7 ?_
  refine z_aload_n (pc := 685) 0 dL_law_685 rfl rfl ?_
  refine z_iload (pc := 686) 4 dL_law_686 rfl ?_
  refine z_iconst (pc := 688) (x := 3) dL_law_688 zc_iconst_3 ?_
  refine z_iadd (pc := 689) dL_law_689 ?_
  obtain ⟨x8, ex8, H⟩ := zbind H
  refine z_iaload (pc := 690) dL_law_690 ex8 ?_
  obtain ⟨z9, H⟩ := zifE H
  obtain ⟨q10, eq10, H⟩ := zbind H
  refine z_callV (pc := 691) (mc := mc) (ms := ms) (d' := 4) (mc' := 0) (ms' := 0) (rest := []) [.int x6, .int x7, .int x8] dL_law_691 md_X12_whose ml_L_64 im_X12_whose se_X12_whose rfl z9 rfl rfl (Nat.le_of_ble_eq_true rfl) (by omega) (k_X12_whose eq10) ?_
  refine z_pop (pc := 694) dL_law_694 rfl ?_
  refine z_goto (pc := 695) 1470 dL_law_695 (by decide) ?_
  cases H
  exact z_mono (Nat.le_refl _) (by omega) (by omega) (z_sub [0, 1, 2, 3, 4] rfl K)
def c_L_9 (N v0 v1 v2 : Nat) (v4 : Int32) (h : zH) : Option zH := (aI h v0 (v4 + 1)).bind fun x1 => (aI h v0 (v4 + 2)).bind fun x2 => zif (zob h v1 11) <| (f_X11_changes N v1 x1 x2 h).bind fun q4 => (aI q4.2 v0 (v4 + 1)).bind fun x5 => (aI q4.2 v0 (v4 + 2)).bind fun x6 => zif (zob q4.2 v2 12) <| (f_X12_changes N v2 x5 x6 q4.2).bind fun q8 => some q8.2
set_option maxRecDepth 100000 in
set_option maxHeartbeats 4000000 in
theorem kc_L_9 {N d mc ms v0 v1 v2 v3 : Nat} {v4 : Int32} {h h2 : zH} {vv : Option Value} {hh : zH} (hd0 : 8 ≤ d) (H : c_L_9 N v0 v1 v2 v4 h = some h2) (K : zW yL_law cL_law 7 (some .boolean) d mc ms 1470 [(0, .ref v0), (1, .ref v1), (2, .ref v2), (3, .ref v3), (4, .int v4)] [] h2 vv hh) : zW yL_law cL_law 7 (some .boolean) d (mc + 0) (ms + 0) 698 [(0, .ref v0), (1, .ref v1), (2, .ref v2), (3, .ref v3), (4, .int v4)] [] h vv hh := by
  unfold c_L_9 at H
  refine z_aload_n (pc := 698) 1 dL_law_698 rfl rfl ?_
  refine z_aload_n (pc := 699) 0 dL_law_699 rfl rfl ?_
  refine z_iload (pc := 700) 4 dL_law_700 rfl ?_
  refine z_iconst (pc := 702) (x := 1) dL_law_702 zc_iconst_1 ?_
  refine z_iadd (pc := 703) dL_law_703 ?_
  obtain ⟨x1, ex1, H⟩ := zbind H
  refine z_iaload (pc := 704) dL_law_704 ex1 ?_
  refine z_aload_n (pc := 705) 0 dL_law_705 rfl rfl ?_
  refine z_iload (pc := 706) 4 dL_law_706 rfl ?_
  refine z_iconst (pc := 708) (x := 2) dL_law_708 zc_iconst_2 ?_
  refine z_iadd (pc := 709) dL_law_709 ?_
  obtain ⟨x2, ex2, H⟩ := zbind H
  refine z_iaload (pc := 710) dL_law_710 ex2 ?_
  obtain ⟨z3, H⟩ := zifE H
  obtain ⟨q4, eq4, H⟩ := zbind H
  refine z_callV (pc := 711) (mc := mc) (ms := ms) (d' := 7) (mc' := 0) (ms' := 0) (rest := []) [.int x1, .int x2] dL_law_711 md_X11_changes ml_L_65 im_X11_changes se_X11_changes rfl z3 rfl rfl (Nat.le_of_ble_eq_true rfl) (by omega) (k_X11_changes eq4) ?_
  refine z_pop (pc := 714) dL_law_714 rfl ?_
  refine z_aload_n (pc := 715) 2 dL_law_715 rfl rfl ?_
  refine z_aload_n (pc := 716) 0 dL_law_716 rfl rfl ?_
  refine z_iload (pc := 717) 4 dL_law_717 rfl ?_
  refine z_iconst (pc := 719) (x := 1) dL_law_719 zc_iconst_1 ?_
  refine z_iadd (pc := 720) dL_law_720 ?_
  obtain ⟨x5, ex5, H⟩ := zbind H
  refine z_iaload (pc := 721) dL_law_721 ex5 ?_
  refine z_aload_n (pc := 722) 0 dL_law_722 rfl rfl ?_
  refine z_iload (pc := 723) 4 dL_law_723 rfl ?_
  refine z_iconst (pc := 725) (x := 2) dL_law_725 zc_iconst_2 ?_
  refine z_iadd (pc := 726) dL_law_726 ?_
  obtain ⟨x6, ex6, H⟩ := zbind H
  refine z_iaload (pc := 727) dL_law_727 ex6 ?_
  obtain ⟨z7, H⟩ := zifE H
  obtain ⟨q8, eq8, H⟩ := zbind H
  refine z_callV (pc := 728) (mc := mc) (ms := ms) (d' := 4) (mc' := 0) (ms' := 0) (rest := []) [.int x5, .int x6] dL_law_728 md_X12_changes ml_L_68 im_X12_changes se_X12_changes rfl z7 rfl rfl (Nat.le_of_ble_eq_true rfl) (by omega) (k_X12_changes eq8) ?_
  refine z_pop (pc := 731) dL_law_731 rfl ?_
  refine z_goto (pc := 732) 1470 dL_law_732 (by decide) ?_
  cases H
  exact z_mono (Nat.le_refl _) (by omega) (by omega) (z_sub [0, 1, 2, 3, 4] rfl K)
def c_L_10 (N v0 v1 v2 : Nat) (v4 : Int32) (h : zH) : Option zH := (aI h v0 (v4 + 1)).bind fun x1 => (aI h v0 (v4 + 2)).bind fun x2 => (if x2 = 0 then (some 0) else (some 1) : Option (Int32)).bind fun m3 => zif (zob h v1 11) <| (f_X11_ruling N v1 x1 m3 h).bind fun q6 => (aI q6.2 v0 (v4 + 1)).bind fun x7 => (aI q6.2 v0 (v4 + 2)).bind fun x8 => (if x8 = 0 then (some 0) else (some 1) : Option (Int32)).bind fun m9 => zif (zob q6.2 v2 12) <| (f_X12_ruling N v2 x7 m9 q6.2).bind fun q12 => some q12.2
set_option maxRecDepth 100000 in
set_option maxHeartbeats 4000000 in
theorem kc_L_10 {N d mc ms v0 v1 v2 v3 : Nat} {v4 : Int32} {h h2 : zH} {vv : Option Value} {hh : zH} (hd0 : 2 ≤ d) (H : c_L_10 N v0 v1 v2 v4 h = some h2) (K : zW yL_law cL_law 7 (some .boolean) d mc ms 1470 [(0, .ref v0), (1, .ref v1), (2, .ref v2), (3, .ref v3), (4, .int v4)] [] h2 vv hh) : zW yL_law cL_law 7 (some .boolean) d (mc + 0) (ms + 0) 735 [(0, .ref v0), (1, .ref v1), (2, .ref v2), (3, .ref v3), (4, .int v4)] [] h vv hh := by
  unfold c_L_10 at H
  refine z_aload_n (pc := 735) 1 dL_law_735 rfl rfl ?_
  refine z_aload_n (pc := 736) 0 dL_law_736 rfl rfl ?_
  refine z_iload (pc := 737) 4 dL_law_737 rfl ?_
  refine z_iconst (pc := 739) (x := 1) dL_law_739 zc_iconst_1 ?_
  refine z_iadd (pc := 740) dL_law_740 ?_
  obtain ⟨x1, ex1, H⟩ := zbind H
  refine z_iaload (pc := 741) dL_law_741 ex1 ?_
  refine z_aload_n (pc := 742) 0 dL_law_742 rfl rfl ?_
  refine z_iload (pc := 743) 4 dL_law_743 rfl ?_
  refine z_iconst (pc := 745) (x := 2) dL_law_745 zc_iconst_2 ?_
  refine z_iadd (pc := 746) dL_law_746 ?_
  obtain ⟨x2, ex2, H⟩ := zbind H
  refine z_iaload (pc := 747) dL_law_747 ex2 ?_
  obtain ⟨m3, em3, H⟩ := zbind H
  have Jm3 : zW yL_law cL_law 7 (some .boolean) d mc ms 756 [(0, .ref v0), (1, .ref v1), (2, .ref v2), (3, .ref v3), (4, .int v4)] [.int m3, .int x1, .ref v1] h vv hh := by
    obtain ⟨z5, H⟩ := zifE H
    obtain ⟨q6, eq6, H⟩ := zbind H
    refine z_callV (pc := 756) (mc := mc) (ms := ms) (d' := 1) (mc' := 0) (ms' := 0) (rest := []) [.int x1, .int m3] dL_law_756 md_X11_ruling ml_L_69 im_X11_ruling se_X11_ruling rfl z5 rfl rfl (Nat.le_of_ble_eq_true rfl) (by omega) (k_X11_ruling eq6) ?_
    refine z_pop (pc := 759) dL_law_759 rfl ?_
    refine z_aload_n (pc := 760) 2 dL_law_760 rfl rfl ?_
    refine z_aload_n (pc := 761) 0 dL_law_761 rfl rfl ?_
    refine z_iload (pc := 762) 4 dL_law_762 rfl ?_
    refine z_iconst (pc := 764) (x := 1) dL_law_764 zc_iconst_1 ?_
    refine z_iadd (pc := 765) dL_law_765 ?_
    obtain ⟨x7, ex7, H⟩ := zbind H
    refine z_iaload (pc := 766) dL_law_766 ex7 ?_
    refine z_aload_n (pc := 767) 0 dL_law_767 rfl rfl ?_
    refine z_iload (pc := 768) 4 dL_law_768 rfl ?_
    refine z_iconst (pc := 770) (x := 2) dL_law_770 zc_iconst_2 ?_
    refine z_iadd (pc := 771) dL_law_771 ?_
    obtain ⟨x8, ex8, H⟩ := zbind H
    refine z_iaload (pc := 772) dL_law_772 ex8 ?_
    obtain ⟨m9, em9, H⟩ := zbind H
    have Jm9 : zW yL_law cL_law 7 (some .boolean) d mc ms 781 [(0, .ref v0), (1, .ref v1), (2, .ref v2), (3, .ref v3), (4, .int v4)] [.int m9, .int x7, .ref v2] q6.2 vv hh := by
      obtain ⟨z11, H⟩ := zifE H
      obtain ⟨q12, eq12, H⟩ := zbind H
      refine z_callV (pc := 781) (mc := mc) (ms := ms) (d' := 1) (mc' := 0) (ms' := 0) (rest := []) [.int x7, .int m9] dL_law_781 md_X12_ruling ml_L_73 im_X12_ruling se_X12_ruling rfl z11 rfl rfl (Nat.le_of_ble_eq_true rfl) (by omega) (k_X12_ruling eq12) ?_
      refine z_pop (pc := 784) dL_law_784 rfl ?_
      refine z_goto (pc := 785) 1470 dL_law_785 (by decide) ?_
      cases H
      exact z_mono (Nat.le_refl _) (by omega) (by omega) (z_sub [0, 1, 2, 3, 4] rfl K)
    refine z_if_eq (pc := 773) 780 dL_law_773 (by decide) (fun c10 => ?_) (fun c10 => ?_)
    · rw [if_pos c10] at em9
      refine z_iconst (pc := 780) (x := 0) dL_law_780 zc_iconst_0 ?_
      cases em9
      exact z_sub [0, 1, 2, 3, 4] rfl Jm9
    · rw [if_neg c10] at em9
      refine z_iconst (pc := 776) (x := 1) dL_law_776 zc_iconst_1 ?_
      refine z_goto (pc := 777) 781 dL_law_777 (by decide) ?_
      cases em9
      exact z_sub [0, 1, 2, 3, 4] rfl Jm9
  refine z_if_eq (pc := 748) 755 dL_law_748 (by decide) (fun c4 => ?_) (fun c4 => ?_)
  · rw [if_pos c4] at em3
    refine z_iconst (pc := 755) (x := 0) dL_law_755 zc_iconst_0 ?_
    cases em3
    exact z_sub [0, 1, 2, 3, 4] rfl Jm3
  · rw [if_neg c4] at em3
    refine z_iconst (pc := 751) (x := 1) dL_law_751 zc_iconst_1 ?_
    refine z_goto (pc := 752) 756 dL_law_752 (by decide) ?_
    cases em3
    exact z_sub [0, 1, 2, 3, 4] rfl Jm3
def c_L_11 (N v0 v1 v2 : Nat) (v4 : Int32) (h : zH) : Option zH := (aI h v0 (v4 + 1)).bind fun x1 => zif (zob h v1 11) <| (f_X11_customs N v1 x1 h).bind fun q3 => (aI q3.2 v0 (v4 + 1)).bind fun x4 => zif (zob q3.2 v2 12) <| (f_X12_customs N v2 x4 q3.2).bind fun q6 => some q6.2
set_option maxRecDepth 100000 in
set_option maxHeartbeats 4000000 in
theorem kc_L_11 {N d mc ms v0 v1 v2 v3 : Nat} {v4 : Int32} {h h2 : zH} {vv : Option Value} {hh : zH} (hd0 : 7 ≤ d) (H : c_L_11 N v0 v1 v2 v4 h = some h2) (K : zW yL_law cL_law 7 (some .boolean) d mc ms 1470 [(0, .ref v0), (1, .ref v1), (2, .ref v2), (3, .ref v3), (4, .int v4)] [] h2 vv hh) : zW yL_law cL_law 7 (some .boolean) d (mc + 0) (ms + 0) 788 [(0, .ref v0), (1, .ref v1), (2, .ref v2), (3, .ref v3), (4, .int v4)] [] h vv hh := by
  unfold c_L_11 at H
  refine z_aload_n (pc := 788) 1 dL_law_788 rfl rfl ?_
  refine z_aload_n (pc := 789) 0 dL_law_789 rfl rfl ?_
  refine z_iload (pc := 790) 4 dL_law_790 rfl ?_
  refine z_iconst (pc := 792) (x := 1) dL_law_792 zc_iconst_1 ?_
  refine z_iadd (pc := 793) dL_law_793 ?_
  obtain ⟨x1, ex1, H⟩ := zbind H
  refine z_iaload (pc := 794) dL_law_794 ex1 ?_
  obtain ⟨z2, H⟩ := zifE H
  obtain ⟨q3, eq3, H⟩ := zbind H
  refine z_callV (pc := 795) (mc := mc) (ms := ms) (d' := 6) (mc' := 0) (ms' := 0) (rest := []) [.int x1] dL_law_795 md_X11_customs ml_L_74 im_X11_customs se_X11_customs rfl z2 rfl rfl (Nat.le_of_ble_eq_true rfl) (by omega) (k_X11_customs eq3) ?_
  refine z_pop (pc := 798) dL_law_798 rfl ?_
  refine z_aload_n (pc := 799) 2 dL_law_799 rfl rfl ?_
  refine z_aload_n (pc := 800) 0 dL_law_800 rfl rfl ?_
  refine z_iload (pc := 801) 4 dL_law_801 rfl ?_
  refine z_iconst (pc := 803) (x := 1) dL_law_803 zc_iconst_1 ?_
  refine z_iadd (pc := 804) dL_law_804 ?_
  obtain ⟨x4, ex4, H⟩ := zbind H
  refine z_iaload (pc := 805) dL_law_805 ex4 ?_
  obtain ⟨z5, H⟩ := zifE H
  obtain ⟨q6, eq6, H⟩ := zbind H
  refine z_callV (pc := 806) (mc := mc) (ms := ms) (d' := 4) (mc' := 0) (ms' := 0) (rest := []) [.int x4] dL_law_806 md_X12_customs ml_L_77 im_X12_customs se_X12_customs rfl z5 rfl rfl (Nat.le_of_ble_eq_true rfl) (by omega) (k_X12_customs eq6) ?_
  refine z_pop (pc := 809) dL_law_809 rfl ?_
  refine z_goto (pc := 810) 1470 dL_law_810 (by decide) ?_
  cases H
  exact z_mono (Nat.le_refl _) (by omega) (by omega) (z_sub [0, 1, 2, 3, 4] rfl K)
def c_L_12 (N v0 v1 v2 : Nat) (v4 : Int32) (h : zH) : Option zH := (aI h v0 (v4 + 1)).bind fun x1 => (aI h v0 (v4 + 2)).bind fun x2 => zif (zob h v1 11) <| (f_X11_held N v1 x1 x2 h).bind fun q4 => (aI q4.2 v0 (v4 + 1)).bind fun x5 => (aI q4.2 v0 (v4 + 2)).bind fun x6 => zif (zob q4.2 v2 12) <| (f_X12_held N v2 x5 x6 q4.2).bind fun q8 => some q8.2
set_option maxRecDepth 100000 in
set_option maxHeartbeats 4000000 in
theorem kc_L_12 {N d mc ms v0 v1 v2 v3 : Nat} {v4 : Int32} {h h2 : zH} {vv : Option Value} {hh : zH} (hd0 : 7 ≤ d) (H : c_L_12 N v0 v1 v2 v4 h = some h2) (K : zW yL_law cL_law 7 (some .boolean) d mc ms 1470 [(0, .ref v0), (1, .ref v1), (2, .ref v2), (3, .ref v3), (4, .int v4)] [] h2 vv hh) : zW yL_law cL_law 7 (some .boolean) d (mc + 0) (ms + 0) 813 [(0, .ref v0), (1, .ref v1), (2, .ref v2), (3, .ref v3), (4, .int v4)] [] h vv hh := by
  unfold c_L_12 at H
  refine z_aload_n (pc := 813) 1 dL_law_813 rfl rfl ?_
  refine z_aload_n (pc := 814) 0 dL_law_814 rfl rfl ?_
  refine z_iload (pc := 815) 4 dL_law_815 rfl ?_
  refine z_iconst (pc := 817) (x := 1) dL_law_817 zc_iconst_1 ?_
  refine z_iadd (pc := 818) dL_law_818 ?_
  obtain ⟨x1, ex1, H⟩ := zbind H
  refine z_iaload (pc := 819) dL_law_819 ex1 ?_
  refine z_aload_n (pc := 820) 0 dL_law_820 rfl rfl ?_
  refine z_iload (pc := 821) 4 dL_law_821 rfl ?_
  refine z_iconst (pc := 823) (x := 2) dL_law_823 zc_iconst_2 ?_
  refine z_iadd (pc := 824) dL_law_824 ?_
  obtain ⟨x2, ex2, H⟩ := zbind H
  refine z_iaload (pc := 825) dL_law_825 ex2 ?_
  obtain ⟨z3, H⟩ := zifE H
  obtain ⟨q4, eq4, H⟩ := zbind H
  refine z_callV (pc := 826) (mc := mc) (ms := ms) (d' := 6) (mc' := 0) (ms' := 0) (rest := []) [.int x1, .int x2] dL_law_826 md_X11_held ml_L_78 im_X11_held se_X11_held rfl z3 rfl rfl (Nat.le_of_ble_eq_true rfl) (by omega) (k_X11_held eq4) ?_
  refine z_pop (pc := 829) dL_law_829 rfl ?_
  refine z_aload_n (pc := 830) 2 dL_law_830 rfl rfl ?_
  refine z_aload_n (pc := 831) 0 dL_law_831 rfl rfl ?_
  refine z_iload (pc := 832) 4 dL_law_832 rfl ?_
  refine z_iconst (pc := 834) (x := 1) dL_law_834 zc_iconst_1 ?_
  refine z_iadd (pc := 835) dL_law_835 ?_
  obtain ⟨x5, ex5, H⟩ := zbind H
  refine z_iaload (pc := 836) dL_law_836 ex5 ?_
  refine z_aload_n (pc := 837) 0 dL_law_837 rfl rfl ?_
  refine z_iload (pc := 838) 4 dL_law_838 rfl ?_
  refine z_iconst (pc := 840) (x := 2) dL_law_840 zc_iconst_2 ?_
  refine z_iadd (pc := 841) dL_law_841 ?_
  obtain ⟨x6, ex6, H⟩ := zbind H
  refine z_iaload (pc := 842) dL_law_842 ex6 ?_
  obtain ⟨z7, H⟩ := zifE H
  obtain ⟨q8, eq8, H⟩ := zbind H
  refine z_callV (pc := 843) (mc := mc) (ms := ms) (d' := 4) (mc' := 0) (ms' := 0) (rest := []) [.int x5, .int x6] dL_law_843 md_X12_held ml_L_81 im_X12_held se_X12_held rfl z7 rfl rfl (Nat.le_of_ble_eq_true rfl) (by omega) (k_X12_held eq8) ?_
  refine z_pop (pc := 846) dL_law_846 rfl ?_
  refine z_goto (pc := 847) 1470 dL_law_847 (by decide) ?_
  cases H
  exact z_mono (Nat.le_refl _) (by omega) (by omega) (z_sub [0, 1, 2, 3, 4] rfl K)
def c_L_13 (N v0 v1 v2 : Nat) (v4 : Int32) (h : zH) : Option zH := (aI h v0 (v4 + 1)).bind fun x1 => zif (zob h v1 11) <| (f_X11_since N v1 x1 h).bind fun q3 => (aI q3.2 v0 (v4 + 1)).bind fun x4 => zif (zob q3.2 v2 12) <| (f_X12_since N v2 x4 q3.2).bind fun q6 => some q6.2
set_option maxRecDepth 100000 in
set_option maxHeartbeats 4000000 in
theorem kc_L_13 {N d mc ms v0 v1 v2 v3 : Nat} {v4 : Int32} {h h2 : zH} {vv : Option Value} {hh : zH} (hd0 : 7 ≤ d) (H : c_L_13 N v0 v1 v2 v4 h = some h2) (K : zW yL_law cL_law 7 (some .boolean) d mc ms 1470 [(0, .ref v0), (1, .ref v1), (2, .ref v2), (3, .ref v3), (4, .int v4)] [] h2 vv hh) : zW yL_law cL_law 7 (some .boolean) d (mc + 0) (ms + 0) 850 [(0, .ref v0), (1, .ref v1), (2, .ref v2), (3, .ref v3), (4, .int v4)] [] h vv hh := by
  unfold c_L_13 at H
  refine z_aload_n (pc := 850) 1 dL_law_850 rfl rfl ?_
  refine z_aload_n (pc := 851) 0 dL_law_851 rfl rfl ?_
  refine z_iload (pc := 852) 4 dL_law_852 rfl ?_
  refine z_iconst (pc := 854) (x := 1) dL_law_854 zc_iconst_1 ?_
  refine z_iadd (pc := 855) dL_law_855 ?_
  obtain ⟨x1, ex1, H⟩ := zbind H
  refine z_iaload (pc := 856) dL_law_856 ex1 ?_
  obtain ⟨z2, H⟩ := zifE H
  obtain ⟨q3, eq3, H⟩ := zbind H
  refine z_callV (pc := 857) (mc := mc) (ms := ms) (d' := 6) (mc' := 0) (ms' := 0) (rest := []) [.int x1] dL_law_857 md_X11_since ml_L_82 im_X11_since se_X11_since rfl z2 rfl rfl (Nat.le_of_ble_eq_true rfl) (by omega) (k_X11_since eq3) ?_
  refine z_pop (pc := 860) dL_law_860 rfl ?_
  refine z_aload_n (pc := 861) 2 dL_law_861 rfl rfl ?_
  refine z_aload_n (pc := 862) 0 dL_law_862 rfl rfl ?_
  refine z_iload (pc := 863) 4 dL_law_863 rfl ?_
  refine z_iconst (pc := 865) (x := 1) dL_law_865 zc_iconst_1 ?_
  refine z_iadd (pc := 866) dL_law_866 ?_
  obtain ⟨x4, ex4, H⟩ := zbind H
  refine z_iaload (pc := 867) dL_law_867 ex4 ?_
  obtain ⟨z5, H⟩ := zifE H
  obtain ⟨q6, eq6, H⟩ := zbind H
  refine z_callV (pc := 868) (mc := mc) (ms := ms) (d' := 4) (mc' := 0) (ms' := 0) (rest := []) [.int x4] dL_law_868 md_X12_since ml_L_85 im_X12_since se_X12_since rfl z5 rfl rfl (Nat.le_of_ble_eq_true rfl) (by omega) (k_X12_since eq6) ?_
  refine z_pop (pc := 871) dL_law_871 rfl ?_
  refine z_goto (pc := 872) 1470 dL_law_872 (by decide) ?_
  cases H
  exact z_mono (Nat.le_refl _) (by omega) (by omega) (z_sub [0, 1, 2, 3, 4] rfl K)
def c_L_14 (N v0 v1 v2 : Nat) (v4 : Int32) (h : zH) : Option zH := (aI h v0 (v4 + 1)).bind fun x1 => (aI h v0 (v4 + 2)).bind fun x2 => (aI h v0 (v4 + 3)).bind fun x3 => (aI h v0 (v4 + 4)).bind fun x4 => (aI h v0 (v4 + 5)).bind fun x5 => zif (zob h v1 11) <| (f_X11_stream N v1 x1 x2 x3 x4 x5 h).bind fun q7 => (aI q7.2 v0 (v4 + 1)).bind fun x8 => (aI q7.2 v0 (v4 + 2)).bind fun x9 => (aI q7.2 v0 (v4 + 3)).bind fun x10 => (aI q7.2 v0 (v4 + 4)).bind fun x11 => (aI q7.2 v0 (v4 + 5)).bind fun x12 => zif (zob q7.2 v2 12) <| (f_X12_stream N v2 x8 x9 x10 x11 x12 q7.2).bind fun q14 => some q14.2
set_option maxRecDepth 100000 in
set_option maxHeartbeats 4000000 in
theorem kc_L_14 {N d mc ms v0 v1 v2 v3 : Nat} {v4 : Int32} {h h2 : zH} {vv : Option Value} {hh : zH} (hd0 : 3 ≤ d) (H : c_L_14 N v0 v1 v2 v4 h = some h2) (K : zW yL_law cL_law 7 (some .boolean) d mc ms 1470 [(0, .ref v0), (1, .ref v1), (2, .ref v2), (3, .ref v3), (4, .int v4)] [] h2 vv hh) : zW yL_law cL_law 7 (some .boolean) d (mc + 0) (ms + 0) 875 [(0, .ref v0), (1, .ref v1), (2, .ref v2), (3, .ref v3), (4, .int v4)] [] h vv hh := by
  unfold c_L_14 at H
  refine z_aload_n (pc := 875) 1 dL_law_875 rfl rfl ?_
  refine z_aload_n (pc := 876) 0 dL_law_876 rfl rfl ?_
  refine z_iload (pc := 877) 4 dL_law_877 rfl ?_
  refine z_iconst (pc := 879) (x := 1) dL_law_879 zc_iconst_1 ?_
  refine z_iadd (pc := 880) dL_law_880 ?_
  obtain ⟨x1, ex1, H⟩ := zbind H
  refine z_iaload (pc := 881) dL_law_881 ex1 ?_
  refine z_aload_n (pc := 882) 0 dL_law_882 rfl rfl ?_
  refine z_iload (pc := 883) 4 dL_law_883 rfl ?_
  refine z_iconst (pc := 885) (x := 2) dL_law_885 zc_iconst_2 ?_
  refine z_iadd (pc := 886) dL_law_886 ?_
  obtain ⟨x2, ex2, H⟩ := zbind H
  refine z_iaload (pc := 887) dL_law_887 ex2 ?_
  refine z_aload_n (pc := 888) 0 dL_law_888 rfl rfl ?_
  refine z_iload (pc := 889) 4 dL_law_889 rfl ?_
  refine z_iconst (pc := 891) (x := 3) dL_law_891 zc_iconst_3 ?_
  refine z_iadd (pc := 892) dL_law_892 ?_
  obtain ⟨x3, ex3, H⟩ := zbind H
  refine z_iaload (pc := 893) dL_law_893 ex3 ?_
  refine z_aload_n (pc := 894) 0 dL_law_894 rfl rfl ?_
  refine z_iload (pc := 895) 4 dL_law_895 rfl ?_
  refine z_iconst (pc := 897) (x := 4) dL_law_897 zc_iconst_4 ?_
  refine z_iadd (pc := 898) dL_law_898 ?_
  obtain ⟨x4, ex4, H⟩ := zbind H
  refine z_iaload (pc := 899) dL_law_899 ex4 ?_
  refine z_aload_n (pc := 900) 0 dL_law_900 rfl rfl ?_
  refine z_iload (pc := 901) 4 dL_law_901 rfl ?_
  refine z_iconst (pc := 903) (x := 5) dL_law_903 zc_iconst_5 ?_
  refine z_iadd (pc := 904) dL_law_904 ?_
  obtain ⟨x5, ex5, H⟩ := zbind H
  refine z_iaload (pc := 905) dL_law_905 ex5 ?_
  obtain ⟨z6, H⟩ := zifE H
  obtain ⟨q7, eq7, H⟩ := zbind H
  refine z_callV (pc := 906) (mc := mc) (ms := ms) (d' := 2) (mc' := 0) (ms' := 0) (rest := []) [.int x1, .int x2, .int x3, .int x4, .int x5] dL_law_906 md_X11_stream ml_L_86 im_X11_stream se_X11_stream rfl z6 rfl rfl (Nat.le_of_ble_eq_true rfl) (by omega) (k_X11_stream eq7) ?_
  refine z_pop (pc := 909) dL_law_909 rfl ?_
  refine z_aload_n (pc := 910) 2 dL_law_910 rfl rfl ?_
  refine z_aload_n (pc := 911) 0 dL_law_911 rfl rfl ?_
  refine z_iload (pc := 912) 4 dL_law_912 rfl ?_
  refine z_iconst (pc := 914) (x := 1) dL_law_914 zc_iconst_1 ?_
  refine z_iadd (pc := 915) dL_law_915 ?_
  obtain ⟨x8, ex8, H⟩ := zbind H
  refine z_iaload (pc := 916) dL_law_916 ex8 ?_
  refine z_aload_n (pc := 917) 0 dL_law_917 rfl rfl ?_
  refine z_iload (pc := 918) 4 dL_law_918 rfl ?_
  refine z_iconst (pc := 920) (x := 2) dL_law_920 zc_iconst_2 ?_
  refine z_iadd (pc := 921) dL_law_921 ?_
  obtain ⟨x9, ex9, H⟩ := zbind H
  refine z_iaload (pc := 922) dL_law_922 ex9 ?_
  refine z_aload_n (pc := 923) 0 dL_law_923 rfl rfl ?_
  refine z_iload (pc := 924) 4 dL_law_924 rfl ?_
  refine z_iconst (pc := 926) (x := 3) dL_law_926 zc_iconst_3 ?_
  refine z_iadd (pc := 927) dL_law_927 ?_
  obtain ⟨x10, ex10, H⟩ := zbind H
  refine z_iaload (pc := 928) dL_law_928 ex10 ?_
  refine z_aload_n (pc := 929) 0 dL_law_929 rfl rfl ?_
  refine z_iload (pc := 930) 4 dL_law_930 rfl ?_
  refine z_iconst (pc := 932) (x := 4) dL_law_932 zc_iconst_4 ?_
  refine z_iadd (pc := 933) dL_law_933 ?_
  obtain ⟨x11, ex11, H⟩ := zbind H
  refine z_iaload (pc := 934) dL_law_934 ex11 ?_
  refine z_aload_n (pc := 935) 0 dL_law_935 rfl rfl ?_
  refine z_iload (pc := 936) 4 dL_law_936 rfl ?_
  refine z_iconst (pc := 938) (x := 5) dL_law_938 zc_iconst_5 ?_
  refine z_iadd (pc := 939) dL_law_939 ?_
  obtain ⟨x12, ex12, H⟩ := zbind H
  refine z_iaload (pc := 940) dL_law_940 ex12 ?_
  obtain ⟨z13, H⟩ := zifE H
  obtain ⟨q14, eq14, H⟩ := zbind H
  refine z_callV (pc := 941) (mc := mc) (ms := ms) (d' := 2) (mc' := 0) (ms' := 0) (rest := []) [.int x8, .int x9, .int x10, .int x11, .int x12] dL_law_941 md_X12_stream ml_L_89 im_X12_stream se_X12_stream rfl z13 rfl rfl (Nat.le_of_ble_eq_true rfl) (by omega) (k_X12_stream eq14) ?_
  refine z_pop (pc := 944) dL_law_944 rfl ?_
  refine z_goto (pc := 945) 1470 dL_law_945 (by decide) ?_
  cases H
  exact z_mono (Nat.le_refl _) (by omega) (by omega) (z_sub [0, 1, 2, 3, 4] rfl K)
def c_L_15 (N v0 v1 v2 : Nat) (v4 : Int32) (h : zH) : Option zH := (aI h v0 (v4 + 1)).bind fun x1 => (aI h v0 (v4 + 2)).bind fun x2 => (aI h v0 (v4 + 3)).bind fun x3 => (if x3 = 0 then (some 0) else (some 1) : Option (Int32)).bind fun m4 => zif (zob h v1 11) <| (f_X11_together N v1 x1 x2 m4 h).bind fun q7 => (aI q7.2 v0 (v4 + 1)).bind fun x8 => (aI q7.2 v0 (v4 + 2)).bind fun x9 => (aI q7.2 v0 (v4 + 3)).bind fun x10 => (if x10 = 0 then (some 0) else (some 1) : Option (Int32)).bind fun m11 => zif (zob q7.2 v2 12) <| (f_X12_together N v2 x8 x9 m11 q7.2).bind fun q14 => some q14.2
set_option maxRecDepth 100000 in
set_option maxHeartbeats 4000000 in
theorem kc_L_15 {N d mc ms v0 v1 v2 v3 : Nat} {v4 : Int32} {h h2 : zH} {vv : Option Value} {hh : zH} (hd0 : 3 ≤ d) (H : c_L_15 N v0 v1 v2 v4 h = some h2) (K : zW yL_law cL_law 7 (some .boolean) d mc ms 1470 [(0, .ref v0), (1, .ref v1), (2, .ref v2), (3, .ref v3), (4, .int v4)] [] h2 vv hh) : zW yL_law cL_law 7 (some .boolean) d (mc + 0) (ms + 0) 948 [(0, .ref v0), (1, .ref v1), (2, .ref v2), (3, .ref v3), (4, .int v4)] [] h vv hh := by
  unfold c_L_15 at H
  refine z_aload_n (pc := 948) 1 dL_law_948 rfl rfl ?_
  refine z_aload_n (pc := 949) 0 dL_law_949 rfl rfl ?_
  refine z_iload (pc := 950) 4 dL_law_950 rfl ?_
  refine z_iconst (pc := 952) (x := 1) dL_law_952 zc_iconst_1 ?_
  refine z_iadd (pc := 953) dL_law_953 ?_
  obtain ⟨x1, ex1, H⟩ := zbind H
  refine z_iaload (pc := 954) dL_law_954 ex1 ?_
  refine z_aload_n (pc := 955) 0 dL_law_955 rfl rfl ?_
  refine z_iload (pc := 956) 4 dL_law_956 rfl ?_
  refine z_iconst (pc := 958) (x := 2) dL_law_958 zc_iconst_2 ?_
  refine z_iadd (pc := 959) dL_law_959 ?_
  obtain ⟨x2, ex2, H⟩ := zbind H
  refine z_iaload (pc := 960) dL_law_960 ex2 ?_
  refine z_aload_n (pc := 961) 0 dL_law_961 rfl rfl ?_
  refine z_iload (pc := 962) 4 dL_law_962 rfl ?_
  refine z_iconst (pc := 964) (x := 3) dL_law_964 zc_iconst_3 ?_
  refine z_iadd (pc := 965) dL_law_965 ?_
  obtain ⟨x3, ex3, H⟩ := zbind H
  refine z_iaload (pc := 966) dL_law_966 ex3 ?_
  obtain ⟨m4, em4, H⟩ := zbind H
  have Jm4 : zW yL_law cL_law 7 (some .boolean) d mc ms 975 [(0, .ref v0), (1, .ref v1), (2, .ref v2), (3, .ref v3), (4, .int v4)] [.int m4, .int x2, .int x1, .ref v1] h vv hh := by
    obtain ⟨z6, H⟩ := zifE H
    obtain ⟨q7, eq7, H⟩ := zbind H
    refine z_callV (pc := 975) (mc := mc) (ms := ms) (d' := 2) (mc' := 0) (ms' := 0) (rest := []) [.int x1, .int x2, .int m4] dL_law_975 md_X11_together ml_L_90 im_X11_together se_X11_together rfl z6 rfl rfl (Nat.le_of_ble_eq_true rfl) (by omega) (k_X11_together eq7) ?_
    refine z_pop (pc := 978) dL_law_978 rfl ?_
    refine z_aload_n (pc := 979) 2 dL_law_979 rfl rfl ?_
    refine z_aload_n (pc := 980) 0 dL_law_980 rfl rfl ?_
    refine z_iload (pc := 981) 4 dL_law_981 rfl ?_
    refine z_iconst (pc := 983) (x := 1) dL_law_983 zc_iconst_1 ?_
    refine z_iadd (pc := 984) dL_law_984 ?_
    obtain ⟨x8, ex8, H⟩ := zbind H
    refine z_iaload (pc := 985) dL_law_985 ex8 ?_
    refine z_aload_n (pc := 986) 0 dL_law_986 rfl rfl ?_
    refine z_iload (pc := 987) 4 dL_law_987 rfl ?_
    refine z_iconst (pc := 989) (x := 2) dL_law_989 zc_iconst_2 ?_
    refine z_iadd (pc := 990) dL_law_990 ?_
    obtain ⟨x9, ex9, H⟩ := zbind H
    refine z_iaload (pc := 991) dL_law_991 ex9 ?_
    refine z_aload_n (pc := 992) 0 dL_law_992 rfl rfl ?_
    refine z_iload (pc := 993) 4 dL_law_993 rfl ?_
    refine z_iconst (pc := 995) (x := 3) dL_law_995 zc_iconst_3 ?_
    refine z_iadd (pc := 996) dL_law_996 ?_
    obtain ⟨x10, ex10, H⟩ := zbind H
    refine z_iaload (pc := 997) dL_law_997 ex10 ?_
    obtain ⟨m11, em11, H⟩ := zbind H
    have Jm11 : zW yL_law cL_law 7 (some .boolean) d mc ms 1006 [(0, .ref v0), (1, .ref v1), (2, .ref v2), (3, .ref v3), (4, .int v4)] [.int m11, .int x9, .int x8, .ref v2] q7.2 vv hh := by
      obtain ⟨z13, H⟩ := zifE H
      obtain ⟨q14, eq14, H⟩ := zbind H
      refine z_callV (pc := 1006) (mc := mc) (ms := ms) (d' := 2) (mc' := 0) (ms' := 0) (rest := []) [.int x8, .int x9, .int m11] dL_law_1006 md_X12_together ml_L_94 im_X12_together se_X12_together rfl z13 rfl rfl (Nat.le_of_ble_eq_true rfl) (by omega) (k_X12_together eq14) ?_
      refine z_pop (pc := 1009) dL_law_1009 rfl ?_
      refine z_goto (pc := 1010) 1470 dL_law_1010 (by decide) ?_
      cases H
      exact z_mono (Nat.le_refl _) (by omega) (by omega) (z_sub [0, 1, 2, 3, 4] rfl K)
    refine z_if_eq (pc := 998) 1005 dL_law_998 (by decide) (fun c12 => ?_) (fun c12 => ?_)
    · rw [if_pos c12] at em11
      refine z_iconst (pc := 1005) (x := 0) dL_law_1005 zc_iconst_0 ?_
      cases em11
      exact z_sub [0, 1, 2, 3, 4] rfl Jm11
    · rw [if_neg c12] at em11
      refine z_iconst (pc := 1001) (x := 1) dL_law_1001 zc_iconst_1 ?_
      refine z_goto (pc := 1002) 1006 dL_law_1002 (by decide) ?_
      cases em11
      exact z_sub [0, 1, 2, 3, 4] rfl Jm11
  refine z_if_eq (pc := 967) 974 dL_law_967 (by decide) (fun c5 => ?_) (fun c5 => ?_)
  · rw [if_pos c5] at em4
    refine z_iconst (pc := 974) (x := 0) dL_law_974 zc_iconst_0 ?_
    cases em4
    exact z_sub [0, 1, 2, 3, 4] rfl Jm4
  · rw [if_neg c5] at em4
    refine z_iconst (pc := 970) (x := 1) dL_law_970 zc_iconst_1 ?_
    refine z_goto (pc := 971) 975 dL_law_971 (by decide) ?_
    cases em4
    exact z_sub [0, 1, 2, 3, 4] rfl Jm4
def c_L_16 (N v0 v1 v2 : Nat) (v4 : Int32) (h : zH) : Option zH := (aI h v0 (v4 + 1)).bind fun x1 => (aI h v0 (v4 + 2)).bind fun x2 => zif (zob h v1 11) <| (f_X11_lights N v1 x1 x2 h).bind fun q4 => (aI q4.2 v0 (v4 + 1)).bind fun x5 => (aI q4.2 v0 (v4 + 2)).bind fun x6 => zif (zob q4.2 v2 12) <| (f_X12_lights N v2 x5 x6 q4.2).bind fun q8 => some q8.2
set_option maxRecDepth 100000 in
set_option maxHeartbeats 4000000 in
theorem kc_L_16 {N d mc ms v0 v1 v2 v3 : Nat} {v4 : Int32} {h h2 : zH} {vv : Option Value} {hh : zH} (hd0 : 6 ≤ d) (H : c_L_16 N v0 v1 v2 v4 h = some h2) (K : zW yL_law cL_law 7 (some .boolean) d mc ms 1470 [(0, .ref v0), (1, .ref v1), (2, .ref v2), (3, .ref v3), (4, .int v4)] [] h2 vv hh) : zW yL_law cL_law 7 (some .boolean) d (mc + 0) (ms + 0) 1013 [(0, .ref v0), (1, .ref v1), (2, .ref v2), (3, .ref v3), (4, .int v4)] [] h vv hh := by
  unfold c_L_16 at H
  refine z_aload_n (pc := 1013) 1 dL_law_1013 rfl rfl ?_
  refine z_aload_n (pc := 1014) 0 dL_law_1014 rfl rfl ?_
  refine z_iload (pc := 1015) 4 dL_law_1015 rfl ?_
  refine z_iconst (pc := 1017) (x := 1) dL_law_1017 zc_iconst_1 ?_
  refine z_iadd (pc := 1018) dL_law_1018 ?_
  obtain ⟨x1, ex1, H⟩ := zbind H
  refine z_iaload (pc := 1019) dL_law_1019 ex1 ?_
  refine z_aload_n (pc := 1020) 0 dL_law_1020 rfl rfl ?_
  refine z_iload (pc := 1021) 4 dL_law_1021 rfl ?_
  refine z_iconst (pc := 1023) (x := 2) dL_law_1023 zc_iconst_2 ?_
  refine z_iadd (pc := 1024) dL_law_1024 ?_
  obtain ⟨x2, ex2, H⟩ := zbind H
  refine z_iaload (pc := 1025) dL_law_1025 ex2 ?_
  obtain ⟨z3, H⟩ := zifE H
  obtain ⟨q4, eq4, H⟩ := zbind H
  refine z_callV (pc := 1026) (mc := mc) (ms := ms) (d' := 5) (mc' := 0) (ms' := 0) (rest := []) [.int x1, .int x2] dL_law_1026 md_X11_lights ml_L_95 im_X11_lights se_X11_lights rfl z3 rfl rfl (Nat.le_of_ble_eq_true rfl) (by omega) (k_X11_lights eq4) ?_
  refine z_pop (pc := 1029) dL_law_1029 rfl ?_
  refine z_aload_n (pc := 1030) 2 dL_law_1030 rfl rfl ?_
  refine z_aload_n (pc := 1031) 0 dL_law_1031 rfl rfl ?_
  refine z_iload (pc := 1032) 4 dL_law_1032 rfl ?_
  refine z_iconst (pc := 1034) (x := 1) dL_law_1034 zc_iconst_1 ?_
  refine z_iadd (pc := 1035) dL_law_1035 ?_
  obtain ⟨x5, ex5, H⟩ := zbind H
  refine z_iaload (pc := 1036) dL_law_1036 ex5 ?_
  refine z_aload_n (pc := 1037) 0 dL_law_1037 rfl rfl ?_
  refine z_iload (pc := 1038) 4 dL_law_1038 rfl ?_
  refine z_iconst (pc := 1040) (x := 2) dL_law_1040 zc_iconst_2 ?_
  refine z_iadd (pc := 1041) dL_law_1041 ?_
  obtain ⟨x6, ex6, H⟩ := zbind H
  refine z_iaload (pc := 1042) dL_law_1042 ex6 ?_
  obtain ⟨z7, H⟩ := zifE H
  obtain ⟨q8, eq8, H⟩ := zbind H
  refine z_callV (pc := 1043) (mc := mc) (ms := ms) (d' := 4) (mc' := 0) (ms' := 0) (rest := []) [.int x5, .int x6] dL_law_1043 md_X12_lights ml_L_98 im_X12_lights se_X12_lights rfl z7 rfl rfl (Nat.le_of_ble_eq_true rfl) (by omega) (k_X12_lights eq8) ?_
  refine z_pop (pc := 1046) dL_law_1046 rfl ?_
  refine z_goto (pc := 1047) 1470 dL_law_1047 (by decide) ?_
  cases H
  exact z_mono (Nat.le_refl _) (by omega) (by omega) (z_sub [0, 1, 2, 3, 4] rfl K)
def c_L_17 (N v0 v1 v2 : Nat) (v4 : Int32) (h : zH) : Option zH := (aI h v0 (v4 + 1)).bind fun x1 => zif (zob h v1 11) <| (f_X11_voters N v1 x1 h).bind fun q3 => (aI q3.2 v0 (v4 + 1)).bind fun x4 => zif (zob q3.2 v2 12) <| (f_X12_voters N v2 x4 q3.2).bind fun q6 => some q6.2
set_option maxRecDepth 100000 in
set_option maxHeartbeats 4000000 in
theorem kc_L_17 {N d mc ms v0 v1 v2 v3 : Nat} {v4 : Int32} {h h2 : zH} {vv : Option Value} {hh : zH} (hd0 : 2 ≤ d) (H : c_L_17 N v0 v1 v2 v4 h = some h2) (K : zW yL_law cL_law 7 (some .boolean) d mc ms 1470 [(0, .ref v0), (1, .ref v1), (2, .ref v2), (3, .ref v3), (4, .int v4)] [] h2 vv hh) : zW yL_law cL_law 7 (some .boolean) d (mc + 0) (ms + 0) 1050 [(0, .ref v0), (1, .ref v1), (2, .ref v2), (3, .ref v3), (4, .int v4)] [] h vv hh := by
  unfold c_L_17 at H
  refine z_aload_n (pc := 1050) 1 dL_law_1050 rfl rfl ?_
  refine z_aload_n (pc := 1051) 0 dL_law_1051 rfl rfl ?_
  refine z_iload (pc := 1052) 4 dL_law_1052 rfl ?_
  refine z_iconst (pc := 1054) (x := 1) dL_law_1054 zc_iconst_1 ?_
  refine z_iadd (pc := 1055) dL_law_1055 ?_
  obtain ⟨x1, ex1, H⟩ := zbind H
  refine z_iaload (pc := 1056) dL_law_1056 ex1 ?_
  obtain ⟨z2, H⟩ := zifE H
  obtain ⟨q3, eq3, H⟩ := zbind H
  refine z_callV (pc := 1057) (mc := mc) (ms := ms) (d' := 1) (mc' := 0) (ms' := 0) (rest := []) [.int x1] dL_law_1057 md_X11_voters ml_L_99 im_X11_voters se_X11_voters rfl z2 rfl rfl (Nat.le_of_ble_eq_true rfl) (by omega) (k_X11_voters eq3) ?_
  refine z_pop (pc := 1060) dL_law_1060 rfl ?_
  refine z_aload_n (pc := 1061) 2 dL_law_1061 rfl rfl ?_
  refine z_aload_n (pc := 1062) 0 dL_law_1062 rfl rfl ?_
  refine z_iload (pc := 1063) 4 dL_law_1063 rfl ?_
  refine z_iconst (pc := 1065) (x := 1) dL_law_1065 zc_iconst_1 ?_
  refine z_iadd (pc := 1066) dL_law_1066 ?_
  obtain ⟨x4, ex4, H⟩ := zbind H
  refine z_iaload (pc := 1067) dL_law_1067 ex4 ?_
  obtain ⟨z5, H⟩ := zifE H
  obtain ⟨q6, eq6, H⟩ := zbind H
  refine z_callV (pc := 1068) (mc := mc) (ms := ms) (d' := 1) (mc' := 0) (ms' := 0) (rest := []) [.int x4] dL_law_1068 md_X12_voters ml_L_102 im_X12_voters se_X12_voters rfl z5 rfl rfl (Nat.le_of_ble_eq_true rfl) (by omega) (k_X12_voters eq6) ?_
  refine z_pop (pc := 1071) dL_law_1071 rfl ?_
  refine z_goto (pc := 1072) 1470 dL_law_1072 (by decide) ?_
  cases H
  exact z_mono (Nat.le_refl _) (by omega) (by omega) (z_sub [0, 1, 2, 3, 4] rfl K)
def c_L_18 (N v0 v1 v2 : Nat) (v4 : Int32) (h : zH) : Option zH := (aI h v0 (v4 + 1)).bind fun x1 => (aI h v0 (v4 + 2)).bind fun x2 => (aI h v0 (v4 + 3)).bind fun x3 => zif (zob h v1 11) <| (f_X11_leans N v1 x1 x2 x3 h).bind fun q5 => (aI q5.2 v0 (v4 + 1)).bind fun x6 => (aI q5.2 v0 (v4 + 2)).bind fun x7 => (aI q5.2 v0 (v4 + 3)).bind fun x8 => zif (zob q5.2 v2 12) <| (f_X12_leans N v2 x6 x7 x8 q5.2).bind fun q10 => some q10.2
set_option maxRecDepth 100000 in
set_option maxHeartbeats 4000000 in
theorem kc_L_18 {N d mc ms v0 v1 v2 v3 : Nat} {v4 : Int32} {h h2 : zH} {vv : Option Value} {hh : zH} (hd0 : 3 ≤ d) (H : c_L_18 N v0 v1 v2 v4 h = some h2) (K : zW yL_law cL_law 7 (some .boolean) d mc ms 1470 [(0, .ref v0), (1, .ref v1), (2, .ref v2), (3, .ref v3), (4, .int v4)] [] h2 vv hh) : zW yL_law cL_law 7 (some .boolean) d (mc + 0) (ms + 0) 1075 [(0, .ref v0), (1, .ref v1), (2, .ref v2), (3, .ref v3), (4, .int v4)] [] h vv hh := by
  unfold c_L_18 at H
  refine z_aload_n (pc := 1075) 1 dL_law_1075 rfl rfl ?_
  refine z_aload_n (pc := 1076) 0 dL_law_1076 rfl rfl ?_
  refine z_iload (pc := 1077) 4 dL_law_1077 rfl ?_
  refine z_iconst (pc := 1079) (x := 1) dL_law_1079 zc_iconst_1 ?_
  refine z_iadd (pc := 1080) dL_law_1080 ?_
  obtain ⟨x1, ex1, H⟩ := zbind H
  refine z_iaload (pc := 1081) dL_law_1081 ex1 ?_
  refine z_aload_n (pc := 1082) 0 dL_law_1082 rfl rfl ?_
  refine z_iload (pc := 1083) 4 dL_law_1083 rfl ?_
  refine z_iconst (pc := 1085) (x := 2) dL_law_1085 zc_iconst_2 ?_
  refine z_iadd (pc := 1086) dL_law_1086 ?_
  obtain ⟨x2, ex2, H⟩ := zbind H
  refine z_iaload (pc := 1087) dL_law_1087 ex2 ?_
  refine z_aload_n (pc := 1088) 0 dL_law_1088 rfl rfl ?_
  refine z_iload (pc := 1089) 4 dL_law_1089 rfl ?_
  refine z_iconst (pc := 1091) (x := 3) dL_law_1091 zc_iconst_3 ?_
  refine z_iadd (pc := 1092) dL_law_1092 ?_
  obtain ⟨x3, ex3, H⟩ := zbind H
  refine z_iaload (pc := 1093) dL_law_1093 ex3 ?_
  obtain ⟨z4, H⟩ := zifE H
  obtain ⟨q5, eq5, H⟩ := zbind H
  refine z_callV (pc := 1094) (mc := mc) (ms := ms) (d' := 2) (mc' := 0) (ms' := 0) (rest := []) [.int x1, .int x2, .int x3] dL_law_1094 md_X11_leans ml_L_103 im_X11_leans se_X11_leans rfl z4 rfl rfl (Nat.le_of_ble_eq_true rfl) (by omega) (k_X11_leans eq5) ?_
  refine z_pop (pc := 1097) dL_law_1097 rfl ?_
  refine z_aload_n (pc := 1098) 2 dL_law_1098 rfl rfl ?_
  refine z_aload_n (pc := 1099) 0 dL_law_1099 rfl rfl ?_
  refine z_iload (pc := 1100) 4 dL_law_1100 rfl ?_
  refine z_iconst (pc := 1102) (x := 1) dL_law_1102 zc_iconst_1 ?_
  refine z_iadd (pc := 1103) dL_law_1103 ?_
  obtain ⟨x6, ex6, H⟩ := zbind H
  refine z_iaload (pc := 1104) dL_law_1104 ex6 ?_
  refine z_aload_n (pc := 1105) 0 dL_law_1105 rfl rfl ?_
  refine z_iload (pc := 1106) 4 dL_law_1106 rfl ?_
  refine z_iconst (pc := 1108) (x := 2) dL_law_1108 zc_iconst_2 ?_
  refine z_iadd (pc := 1109) dL_law_1109 ?_
  obtain ⟨x7, ex7, H⟩ := zbind H
  refine z_iaload (pc := 1110) dL_law_1110 ex7 ?_
  refine z_aload_n (pc := 1111) 0 dL_law_1111 rfl rfl ?_
  refine z_iload (pc := 1112) 4 dL_law_1112 rfl ?_
  refine z_iconst (pc := 1114) (x := 3) dL_law_1114 zc_iconst_3 ?_
  refine z_iadd (pc := 1115) dL_law_1115 ?_
  obtain ⟨x8, ex8, H⟩ := zbind H
  refine z_iaload (pc := 1116) dL_law_1116 ex8 ?_
  obtain ⟨z9, H⟩ := zifE H
  obtain ⟨q10, eq10, H⟩ := zbind H
  refine z_callV (pc := 1117) (mc := mc) (ms := ms) (d' := 1) (mc' := 0) (ms' := 0) (rest := []) [.int x6, .int x7, .int x8] dL_law_1117 md_X12_leans ml_L_107 im_X12_leans se_X12_leans rfl z9 rfl rfl (Nat.le_of_ble_eq_true rfl) (by omega) (k_X12_leans eq10) ?_
  refine z_pop (pc := 1120) dL_law_1120 rfl ?_
  refine z_goto (pc := 1121) 1470 dL_law_1121 (by decide) ?_
  cases H
  exact z_mono (Nat.le_refl _) (by omega) (by omega) (z_sub [0, 1, 2, 3, 4] rfl K)
def c_L_19 (N v0 v1 v2 : Nat) (v4 : Int32) (h : zH) : Option zH := (aI h v0 (v4 + 1)).bind fun x1 => zif (zob h v1 11) <| (f_X11_passes N v1 x1 h).bind fun q3 => (aI q3.2 v0 (v4 + 1)).bind fun x4 => zif (zob q3.2 v2 12) <| (f_X12_passes N v2 x4 q3.2).bind fun q6 => some q6.2
set_option maxRecDepth 100000 in
set_option maxHeartbeats 4000000 in
theorem kc_L_19 {N d mc ms v0 v1 v2 v3 : Nat} {v4 : Int32} {h h2 : zH} {vv : Option Value} {hh : zH} (hd0 : 5 ≤ d) (H : c_L_19 N v0 v1 v2 v4 h = some h2) (K : zW yL_law cL_law 7 (some .boolean) d mc ms 1470 [(0, .ref v0), (1, .ref v1), (2, .ref v2), (3, .ref v3), (4, .int v4)] [] h2 vv hh) : zW yL_law cL_law 7 (some .boolean) d (mc + 0) (ms + 0) 1124 [(0, .ref v0), (1, .ref v1), (2, .ref v2), (3, .ref v3), (4, .int v4)] [] h vv hh := by
  unfold c_L_19 at H
  refine z_aload_n (pc := 1124) 1 dL_law_1124 rfl rfl ?_
  refine z_aload_n (pc := 1125) 0 dL_law_1125 rfl rfl ?_
  refine z_iload (pc := 1126) 4 dL_law_1126 rfl ?_
  refine z_iconst (pc := 1128) (x := 1) dL_law_1128 zc_iconst_1 ?_
  refine z_iadd (pc := 1129) dL_law_1129 ?_
  obtain ⟨x1, ex1, H⟩ := zbind H
  refine z_iaload (pc := 1130) dL_law_1130 ex1 ?_
  obtain ⟨z2, H⟩ := zifE H
  obtain ⟨q3, eq3, H⟩ := zbind H
  refine z_callV (pc := 1131) (mc := mc) (ms := ms) (d' := 4) (mc' := 0) (ms' := 0) (rest := []) [.int x1] dL_law_1131 md_X11_passes ml_L_108 im_X11_passes se_X11_passes rfl z2 rfl rfl (Nat.le_of_ble_eq_true rfl) (by omega) (k_X11_passes eq3) ?_
  refine z_pop (pc := 1134) dL_law_1134 rfl ?_
  refine z_aload_n (pc := 1135) 2 dL_law_1135 rfl rfl ?_
  refine z_aload_n (pc := 1136) 0 dL_law_1136 rfl rfl ?_
  refine z_iload (pc := 1137) 4 dL_law_1137 rfl ?_
  refine z_iconst (pc := 1139) (x := 1) dL_law_1139 zc_iconst_1 ?_
  refine z_iadd (pc := 1140) dL_law_1140 ?_
  obtain ⟨x4, ex4, H⟩ := zbind H
  refine z_iaload (pc := 1141) dL_law_1141 ex4 ?_
  obtain ⟨z5, H⟩ := zifE H
  obtain ⟨q6, eq6, H⟩ := zbind H
  refine z_callV (pc := 1142) (mc := mc) (ms := ms) (d' := 2) (mc' := 0) (ms' := 0) (rest := []) [.int x4] dL_law_1142 md_X12_passes ml_L_111 im_X12_passes se_X12_passes rfl z5 rfl rfl (Nat.le_of_ble_eq_true rfl) (by omega) (k_X12_passes eq6) ?_
  refine z_pop (pc := 1145) dL_law_1145 rfl ?_
  refine z_goto (pc := 1146) 1470 dL_law_1146 (by decide) ?_
  cases H
  exact z_mono (Nat.le_refl _) (by omega) (by omega) (z_sub [0, 1, 2, 3, 4] rfl K)
def c_L_20 (N v0 v1 v2 : Nat) (v4 : Int32) (h : zH) : Option zH := (aI h v0 (v4 + 1)).bind fun x1 => zif (zob h v1 11) <| (f_X11_most N v1 x1 h).bind fun q3 => (aI q3.2 v0 (v4 + 1)).bind fun x4 => zif (zob q3.2 v2 12) <| (f_X12_most N v2 x4 q3.2).bind fun q6 => some q6.2
set_option maxRecDepth 100000 in
set_option maxHeartbeats 4000000 in
theorem kc_L_20 {N d mc ms v0 v1 v2 v3 : Nat} {v4 : Int32} {h h2 : zH} {vv : Option Value} {hh : zH} (hd0 : 5 ≤ d) (H : c_L_20 N v0 v1 v2 v4 h = some h2) (K : zW yL_law cL_law 7 (some .boolean) d mc ms 1470 [(0, .ref v0), (1, .ref v1), (2, .ref v2), (3, .ref v3), (4, .int v4)] [] h2 vv hh) : zW yL_law cL_law 7 (some .boolean) d (mc + 0) (ms + 0) 1149 [(0, .ref v0), (1, .ref v1), (2, .ref v2), (3, .ref v3), (4, .int v4)] [] h vv hh := by
  unfold c_L_20 at H
  refine z_aload_n (pc := 1149) 1 dL_law_1149 rfl rfl ?_
  refine z_aload_n (pc := 1150) 0 dL_law_1150 rfl rfl ?_
  refine z_iload (pc := 1151) 4 dL_law_1151 rfl ?_
  refine z_iconst (pc := 1153) (x := 1) dL_law_1153 zc_iconst_1 ?_
  refine z_iadd (pc := 1154) dL_law_1154 ?_
  obtain ⟨x1, ex1, H⟩ := zbind H
  refine z_iaload (pc := 1155) dL_law_1155 ex1 ?_
  obtain ⟨z2, H⟩ := zifE H
  obtain ⟨q3, eq3, H⟩ := zbind H
  refine z_callV (pc := 1156) (mc := mc) (ms := ms) (d' := 4) (mc' := 0) (ms' := 0) (rest := []) [.int x1] dL_law_1156 md_X11_most ml_L_112 im_X11_most se_X11_most rfl z2 rfl rfl (Nat.le_of_ble_eq_true rfl) (by omega) (k_X11_most eq3) ?_
  refine z_pop (pc := 1159) dL_law_1159 rfl ?_
  refine z_aload_n (pc := 1160) 2 dL_law_1160 rfl rfl ?_
  refine z_aload_n (pc := 1161) 0 dL_law_1161 rfl rfl ?_
  refine z_iload (pc := 1162) 4 dL_law_1162 rfl ?_
  refine z_iconst (pc := 1164) (x := 1) dL_law_1164 zc_iconst_1 ?_
  refine z_iadd (pc := 1165) dL_law_1165 ?_
  obtain ⟨x4, ex4, H⟩ := zbind H
  refine z_iaload (pc := 1166) dL_law_1166 ex4 ?_
  obtain ⟨z5, H⟩ := zifE H
  obtain ⟨q6, eq6, H⟩ := zbind H
  refine z_callV (pc := 1167) (mc := mc) (ms := ms) (d' := 2) (mc' := 0) (ms' := 0) (rest := []) [.int x4] dL_law_1167 md_X12_most ml_L_115 im_X12_most se_X12_most rfl z5 rfl rfl (Nat.le_of_ble_eq_true rfl) (by omega) (k_X12_most eq6) ?_
  refine z_pop (pc := 1170) dL_law_1170 rfl ?_
  refine z_goto (pc := 1171) 1470 dL_law_1171 (by decide) ?_
  cases H
  exact z_mono (Nat.le_refl _) (by omega) (by omega) (z_sub [0, 1, 2, 3, 4] rfl K)
def c_L_21 (N v0 v1 v2 : Nat) (v4 : Int32) (h : zH) : Option zH := (aI h v0 (v4 + 1)).bind fun x1 => (aI h v0 (v4 + 2)).bind fun x2 => (aI h v0 (v4 + 3)).bind fun x3 => (aI h v0 (v4 + 4)).bind fun x4 => zif (zob h v1 11) <| (f_X11_counted N v1 x1 x2 x3 x4 h).bind fun q6 => (aI q6.2 v0 (v4 + 1)).bind fun x7 => (aI q6.2 v0 (v4 + 2)).bind fun x8 => (aI q6.2 v0 (v4 + 3)).bind fun x9 => (aI q6.2 v0 (v4 + 4)).bind fun x10 => zif (zob q6.2 v2 12) <| (f_X12_counted N v2 x7 x8 x9 x10 q6.2).bind fun q12 => some q12.2
set_option maxRecDepth 100000 in
set_option maxHeartbeats 4000000 in
theorem kc_L_21 {N d mc ms v0 v1 v2 v3 : Nat} {v4 : Int32} {h h2 : zH} {vv : Option Value} {hh : zH} (hd0 : 3 ≤ d) (H : c_L_21 N v0 v1 v2 v4 h = some h2) (K : zW yL_law cL_law 7 (some .boolean) d mc ms 1470 [(0, .ref v0), (1, .ref v1), (2, .ref v2), (3, .ref v3), (4, .int v4)] [] h2 vv hh) : zW yL_law cL_law 7 (some .boolean) d (mc + 0) (ms + 0) 1174 [(0, .ref v0), (1, .ref v1), (2, .ref v2), (3, .ref v3), (4, .int v4)] [] h vv hh := by
  unfold c_L_21 at H
  refine z_aload_n (pc := 1174) 1 dL_law_1174 rfl rfl ?_
  refine z_aload_n (pc := 1175) 0 dL_law_1175 rfl rfl ?_
  refine z_iload (pc := 1176) 4 dL_law_1176 rfl ?_
  refine z_iconst (pc := 1178) (x := 1) dL_law_1178 zc_iconst_1 ?_
  refine z_iadd (pc := 1179) dL_law_1179 ?_
  obtain ⟨x1, ex1, H⟩ := zbind H
  refine z_iaload (pc := 1180) dL_law_1180 ex1 ?_
  refine z_aload_n (pc := 1181) 0 dL_law_1181 rfl rfl ?_
  refine z_iload (pc := 1182) 4 dL_law_1182 rfl ?_
  refine z_iconst (pc := 1184) (x := 2) dL_law_1184 zc_iconst_2 ?_
  refine z_iadd (pc := 1185) dL_law_1185 ?_
  obtain ⟨x2, ex2, H⟩ := zbind H
  refine z_iaload (pc := 1186) dL_law_1186 ex2 ?_
  refine z_aload_n (pc := 1187) 0 dL_law_1187 rfl rfl ?_
  refine z_iload (pc := 1188) 4 dL_law_1188 rfl ?_
  refine z_iconst (pc := 1190) (x := 3) dL_law_1190 zc_iconst_3 ?_
  refine z_iadd (pc := 1191) dL_law_1191 ?_
  obtain ⟨x3, ex3, H⟩ := zbind H
  refine z_iaload (pc := 1192) dL_law_1192 ex3 ?_
  refine z_aload_n (pc := 1193) 0 dL_law_1193 rfl rfl ?_
  refine z_iload (pc := 1194) 4 dL_law_1194 rfl ?_
  refine z_iconst (pc := 1196) (x := 4) dL_law_1196 zc_iconst_4 ?_
  refine z_iadd (pc := 1197) dL_law_1197 ?_
  obtain ⟨x4, ex4, H⟩ := zbind H
  refine z_iaload (pc := 1198) dL_law_1198 ex4 ?_
  obtain ⟨z5, H⟩ := zifE H
  obtain ⟨q6, eq6, H⟩ := zbind H
  refine z_callV (pc := 1199) (mc := mc) (ms := ms) (d' := 1) (mc' := 0) (ms' := 0) (rest := []) [.int x1, .int x2, .int x3, .int x4] dL_law_1199 md_X11_counted ml_L_116 im_X11_counted se_X11_counted rfl z5 rfl rfl (Nat.le_of_ble_eq_true rfl) (by omega) (k_X11_counted eq6) ?_
  refine z_pop (pc := 1202) dL_law_1202 rfl ?_
  refine z_aload_n (pc := 1203) 2 dL_law_1203 rfl rfl ?_
  refine z_aload_n (pc := 1204) 0 dL_law_1204 rfl rfl ?_
  refine z_iload (pc := 1205) 4 dL_law_1205 rfl ?_
  refine z_iconst (pc := 1207) (x := 1) dL_law_1207 zc_iconst_1 ?_
  refine z_iadd (pc := 1208) dL_law_1208 ?_
  obtain ⟨x7, ex7, H⟩ := zbind H
  refine z_iaload (pc := 1209) dL_law_1209 ex7 ?_
  refine z_aload_n (pc := 1210) 0 dL_law_1210 rfl rfl ?_
  refine z_iload (pc := 1211) 4 dL_law_1211 rfl ?_
  refine z_iconst (pc := 1213) (x := 2) dL_law_1213 zc_iconst_2 ?_
  refine z_iadd (pc := 1214) dL_law_1214 ?_
  obtain ⟨x8, ex8, H⟩ := zbind H
  refine z_iaload (pc := 1215) dL_law_1215 ex8 ?_
  refine z_aload_n (pc := 1216) 0 dL_law_1216 rfl rfl ?_
  refine z_iload (pc := 1217) 4 dL_law_1217 rfl ?_
  refine z_iconst (pc := 1219) (x := 3) dL_law_1219 zc_iconst_3 ?_
  refine z_iadd (pc := 1220) dL_law_1220 ?_
  obtain ⟨x9, ex9, H⟩ := zbind H
  refine z_iaload (pc := 1221) dL_law_1221 ex9 ?_
  refine z_aload_n (pc := 1222) 0 dL_law_1222 rfl rfl ?_
  refine z_iload (pc := 1223) 4 dL_law_1223 rfl ?_
  refine z_iconst (pc := 1225) (x := 4) dL_law_1225 zc_iconst_4 ?_
  refine z_iadd (pc := 1226) dL_law_1226 ?_
  obtain ⟨x10, ex10, H⟩ := zbind H
  refine z_iaload (pc := 1227) dL_law_1227 ex10 ?_
  obtain ⟨z11, H⟩ := zifE H
  obtain ⟨q12, eq12, H⟩ := zbind H
  refine z_callV (pc := 1228) (mc := mc) (ms := ms) (d' := 2) (mc' := 0) (ms' := 0) (rest := []) [.int x7, .int x8, .int x9, .int x10] dL_law_1228 md_X12_counted ml_L_120 im_X12_counted se_X12_counted rfl z11 rfl rfl (Nat.le_of_ble_eq_true rfl) (by omega) (k_X12_counted eq12) ?_
  refine z_pop (pc := 1231) dL_law_1231 rfl ?_
  refine z_goto (pc := 1232) 1470 dL_law_1232 (by decide) ?_
  cases H
  exact z_mono (Nat.le_refl _) (by omega) (by omega) (z_sub [0, 1, 2, 3, 4] rfl K)
def c_L_22 (N v0 v1 v2 : Nat) (v4 : Int32) (h : zH) : Option zH := (aI h v0 (v4 + 1)).bind fun x1 => (aI h v0 (v4 + 2)).bind fun x2 => (aI h v0 (v4 + 3)).bind fun x3 => zif (zob h v1 11) <| (f_X11_fell N v1 x1 x2 x3 h).bind fun q5 => (aI h v0 (v4 + 1)).bind fun x6 => (aI h v0 (v4 + 2)).bind fun x7 => (aI h v0 (v4 + 3)).bind fun x8 => zif (zob h v2 12) <| (f_X12_fell N v2 x6 x7 x8 h).bind fun q10 => some q10.2
set_option maxRecDepth 100000 in
set_option maxHeartbeats 4000000 in
theorem kc_L_22 {N d mc ms v0 v1 v2 v3 : Nat} {v4 : Int32} {h h2 : zH} {vv : Option Value} {hh : zH} (hd0 : 3 ≤ d) (H : c_L_22 N v0 v1 v2 v4 h = some h2) (K : zW yL_law cL_law 7 (some .boolean) d mc ms 1470 [(0, .ref v0), (1, .ref v1), (2, .ref v2), (3, .ref v3), (4, .int v4)] [] h2 vv hh) : zW yL_law cL_law 7 (some .boolean) d (mc + 0) (ms + 0) 1235 [(0, .ref v0), (1, .ref v1), (2, .ref v2), (3, .ref v3), (4, .int v4)] [] h vv hh := by
  unfold c_L_22 at H
  refine z_aload_n (pc := 1235) 1 dL_law_1235 rfl rfl ?_
  refine z_aload_n (pc := 1236) 0 dL_law_1236 rfl rfl ?_
  refine z_iload (pc := 1237) 4 dL_law_1237 rfl ?_
  refine z_iconst (pc := 1239) (x := 1) dL_law_1239 zc_iconst_1 ?_
  refine z_iadd (pc := 1240) dL_law_1240 ?_
  obtain ⟨x1, ex1, H⟩ := zbind H
  refine z_iaload (pc := 1241) dL_law_1241 ex1 ?_
  refine z_aload_n (pc := 1242) 0 dL_law_1242 rfl rfl ?_
  refine z_iload (pc := 1243) 4 dL_law_1243 rfl ?_
  refine z_iconst (pc := 1245) (x := 2) dL_law_1245 zc_iconst_2 ?_
  refine z_iadd (pc := 1246) dL_law_1246 ?_
  obtain ⟨x2, ex2, H⟩ := zbind H
  refine z_iaload (pc := 1247) dL_law_1247 ex2 ?_
  refine z_aload_n (pc := 1248) 0 dL_law_1248 rfl rfl ?_
  refine z_iload (pc := 1249) 4 dL_law_1249 rfl ?_
  refine z_iconst (pc := 1251) (x := 3) dL_law_1251 zc_iconst_3 ?_
  refine z_iadd (pc := 1252) dL_law_1252 ?_
  obtain ⟨x3, ex3, H⟩ := zbind H
  refine z_iaload (pc := 1253) dL_law_1253 ex3 ?_
  obtain ⟨z4, H⟩ := zifE H
  obtain ⟨q5, eq5, H⟩ := zbind H
  refine z_callV (pc := 1254) (mc := mc) (ms := ms) (d' := 2) (mc' := 0) (ms' := 0) (rest := []) [.int x1, .int x2, .int x3] dL_law_1254 md_X11_fell ml_L_121 im_X11_fell se_X11_fell rfl z4 rfl rfl (Nat.le_of_ble_eq_true rfl) (by omega) (k_X11_fell eq5) ?_
  refine z_pop (pc := 1257) dL_law_1257 rfl ?_
  refine z_aload_n (pc := 1258) 2 dL_law_1258 rfl rfl ?_
  refine z_aload_n (pc := 1259) 0 dL_law_1259 rfl rfl ?_
  refine z_iload (pc := 1260) 4 dL_law_1260 rfl ?_
  refine z_iconst (pc := 1262) (x := 1) dL_law_1262 zc_iconst_1 ?_
  refine z_iadd (pc := 1263) dL_law_1263 ?_
  obtain ⟨x6, ex6, H⟩ := zbind H
  refine z_iaload (pc := 1264) dL_law_1264 ex6 ?_
  refine z_aload_n (pc := 1265) 0 dL_law_1265 rfl rfl ?_
  refine z_iload (pc := 1266) 4 dL_law_1266 rfl ?_
  refine z_iconst (pc := 1268) (x := 2) dL_law_1268 zc_iconst_2 ?_
  refine z_iadd (pc := 1269) dL_law_1269 ?_
  obtain ⟨x7, ex7, H⟩ := zbind H
  refine z_iaload (pc := 1270) dL_law_1270 ex7 ?_
  refine z_aload_n (pc := 1271) 0 dL_law_1271 rfl rfl ?_
  refine z_iload (pc := 1272) 4 dL_law_1272 rfl ?_
  refine z_iconst (pc := 1274) (x := 3) dL_law_1274 zc_iconst_3 ?_
  refine z_iadd (pc := 1275) dL_law_1275 ?_
  obtain ⟨x8, ex8, H⟩ := zbind H
  refine z_iaload (pc := 1276) dL_law_1276 ex8 ?_
  obtain ⟨z9, H⟩ := zifE H
  obtain ⟨q10, eq10, H⟩ := zbind H
  refine z_callV (pc := 1277) (mc := mc) (ms := ms) (d' := 2) (mc' := 0) (ms' := 0) (rest := []) [.int x6, .int x7, .int x8] dL_law_1277 md_X12_fell ml_L_124 im_X12_fell se_X12_fell rfl z9 rfl rfl (Nat.le_of_ble_eq_true rfl) (by omega) (k_X12_fell eq10) ?_
  refine z_pop (pc := 1280) dL_law_1280 rfl ?_
  refine z_goto (pc := 1281) 1470 dL_law_1281 (by decide) ?_
  cases H
  exact z_mono (Nat.le_refl _) (by omega) (by omega) (z_sub [0, 1, 2, 3, 4] rfl K)
def c_L_23 (N v0 v1 v2 : Nat) (v4 : Int32) (h : zH) : Option zH := (aI h v0 (v4 + 1)).bind fun x1 => (aI h v0 (v4 + 2)).bind fun x2 => (aI h v0 (v4 + 3)).bind fun x3 => (aI h v0 (v4 + 4)).bind fun x4 => (aI h v0 (v4 + 5)).bind fun x5 => (aI h v0 (v4 + 6)).bind fun x6 => zif (zob h v1 11) <| (f_X11_street N v1 x1 x2 x3 x4 x5 x6 h).bind fun q8 => (aI q8.2 v0 (v4 + 1)).bind fun x9 => (aI q8.2 v0 (v4 + 2)).bind fun x10 => (aI q8.2 v0 (v4 + 3)).bind fun x11 => (aI q8.2 v0 (v4 + 4)).bind fun x12 => (aI q8.2 v0 (v4 + 5)).bind fun x13 => (aI q8.2 v0 (v4 + 6)).bind fun x14 => zif (zob q8.2 v2 12) <| (f_X12_street N v2 x9 x10 x11 x12 x13 x14 q8.2).bind fun q16 => some q16.2
set_option maxRecDepth 100000 in
set_option maxHeartbeats 4000000 in
theorem kc_L_23 {N d mc ms v0 v1 v2 v3 : Nat} {v4 : Int32} {h h2 : zH} {vv : Option Value} {hh : zH} (hd0 : 3 ≤ d) (H : c_L_23 N v0 v1 v2 v4 h = some h2) (K : zW yL_law cL_law 7 (some .boolean) d mc ms 1470 [(0, .ref v0), (1, .ref v1), (2, .ref v2), (3, .ref v3), (4, .int v4)] [] h2 vv hh) : zW yL_law cL_law 7 (some .boolean) d (mc + 0) (ms + 0) 1284 [(0, .ref v0), (1, .ref v1), (2, .ref v2), (3, .ref v3), (4, .int v4)] [] h vv hh := by
  unfold c_L_23 at H
  refine z_aload_n (pc := 1284) 1 dL_law_1284 rfl rfl ?_
  refine z_aload_n (pc := 1285) 0 dL_law_1285 rfl rfl ?_
  refine z_iload (pc := 1286) 4 dL_law_1286 rfl ?_
  refine z_iconst (pc := 1288) (x := 1) dL_law_1288 zc_iconst_1 ?_
  refine z_iadd (pc := 1289) dL_law_1289 ?_
  obtain ⟨x1, ex1, H⟩ := zbind H
  refine z_iaload (pc := 1290) dL_law_1290 ex1 ?_
  refine z_aload_n (pc := 1291) 0 dL_law_1291 rfl rfl ?_
  refine z_iload (pc := 1292) 4 dL_law_1292 rfl ?_
  refine z_iconst (pc := 1294) (x := 2) dL_law_1294 zc_iconst_2 ?_
  refine z_iadd (pc := 1295) dL_law_1295 ?_
  obtain ⟨x2, ex2, H⟩ := zbind H
  refine z_iaload (pc := 1296) dL_law_1296 ex2 ?_
  refine z_aload_n (pc := 1297) 0 dL_law_1297 rfl rfl ?_
  refine z_iload (pc := 1298) 4 dL_law_1298 rfl ?_
  refine z_iconst (pc := 1300) (x := 3) dL_law_1300 zc_iconst_3 ?_
  refine z_iadd (pc := 1301) dL_law_1301 ?_
  obtain ⟨x3, ex3, H⟩ := zbind H
  refine z_iaload (pc := 1302) dL_law_1302 ex3 ?_
  refine z_aload_n (pc := 1303) 0 dL_law_1303 rfl rfl ?_
  refine z_iload (pc := 1304) 4 dL_law_1304 rfl ?_
  refine z_iconst (pc := 1306) (x := 4) dL_law_1306 zc_iconst_4 ?_
  refine z_iadd (pc := 1307) dL_law_1307 ?_
  obtain ⟨x4, ex4, H⟩ := zbind H
  refine z_iaload (pc := 1308) dL_law_1308 ex4 ?_
  refine z_aload_n (pc := 1309) 0 dL_law_1309 rfl rfl ?_
  refine z_iload (pc := 1310) 4 dL_law_1310 rfl ?_
  refine z_iconst (pc := 1312) (x := 5) dL_law_1312 zc_iconst_5 ?_
  refine z_iadd (pc := 1313) dL_law_1313 ?_
  obtain ⟨x5, ex5, H⟩ := zbind H
  refine z_iaload (pc := 1314) dL_law_1314 ex5 ?_
  refine z_aload_n (pc := 1315) 0 dL_law_1315 rfl rfl ?_
  refine z_iload (pc := 1316) 4 dL_law_1316 rfl ?_
  refine z_bipush (pc := 1318) (x := 6) dL_law_1318 zc_bipush_6 ?_
  refine z_iadd (pc := 1320) dL_law_1320 ?_
  obtain ⟨x6, ex6, H⟩ := zbind H
  refine z_iaload (pc := 1321) dL_law_1321 ex6 ?_
  obtain ⟨z7, H⟩ := zifE H
  obtain ⟨q8, eq8, H⟩ := zbind H
  refine z_callV (pc := 1322) (mc := mc) (ms := ms) (d' := 2) (mc' := 0) (ms' := 0) (rest := []) [.int x1, .int x2, .int x3, .int x4, .int x5, .int x6] dL_law_1322 md_X11_street ml_L_125 im_X11_street se_X11_street rfl z7 rfl rfl (Nat.le_of_ble_eq_true rfl) (by omega) (k_X11_street eq8) ?_
  refine z_pop (pc := 1325) dL_law_1325 rfl ?_
  refine z_aload_n (pc := 1326) 2 dL_law_1326 rfl rfl ?_
  refine z_aload_n (pc := 1327) 0 dL_law_1327 rfl rfl ?_
  refine z_iload (pc := 1328) 4 dL_law_1328 rfl ?_
  refine z_iconst (pc := 1330) (x := 1) dL_law_1330 zc_iconst_1 ?_
  refine z_iadd (pc := 1331) dL_law_1331 ?_
  obtain ⟨x9, ex9, H⟩ := zbind H
  refine z_iaload (pc := 1332) dL_law_1332 ex9 ?_
  refine z_aload_n (pc := 1333) 0 dL_law_1333 rfl rfl ?_
  refine z_iload (pc := 1334) 4 dL_law_1334 rfl ?_
  refine z_iconst (pc := 1336) (x := 2) dL_law_1336 zc_iconst_2 ?_
  refine z_iadd (pc := 1337) dL_law_1337 ?_
  obtain ⟨x10, ex10, H⟩ := zbind H
  refine z_iaload (pc := 1338) dL_law_1338 ex10 ?_
  refine z_aload_n (pc := 1339) 0 dL_law_1339 rfl rfl ?_
  refine z_iload (pc := 1340) 4 dL_law_1340 rfl ?_
  refine z_iconst (pc := 1342) (x := 3) dL_law_1342 zc_iconst_3 ?_
  refine z_iadd (pc := 1343) dL_law_1343 ?_
  obtain ⟨x11, ex11, H⟩ := zbind H
  refine z_iaload (pc := 1344) dL_law_1344 ex11 ?_
  refine z_aload_n (pc := 1345) 0 dL_law_1345 rfl rfl ?_
  refine z_iload (pc := 1346) 4 dL_law_1346 rfl ?_
  refine z_iconst (pc := 1348) (x := 4) dL_law_1348 zc_iconst_4 ?_
  refine z_iadd (pc := 1349) dL_law_1349 ?_
  obtain ⟨x12, ex12, H⟩ := zbind H
  refine z_iaload (pc := 1350) dL_law_1350 ex12 ?_
  refine z_aload_n (pc := 1351) 0 dL_law_1351 rfl rfl ?_
  refine z_iload (pc := 1352) 4 dL_law_1352 rfl ?_
  refine z_iconst (pc := 1354) (x := 5) dL_law_1354 zc_iconst_5 ?_
  refine z_iadd (pc := 1355) dL_law_1355 ?_
  obtain ⟨x13, ex13, H⟩ := zbind H
  refine z_iaload (pc := 1356) dL_law_1356 ex13 ?_
  refine z_aload_n (pc := 1357) 0 dL_law_1357 rfl rfl ?_
  refine z_iload (pc := 1358) 4 dL_law_1358 rfl ?_
  refine z_bipush (pc := 1360) (x := 6) dL_law_1360 zc_bipush_6 ?_
  refine z_iadd (pc := 1362) dL_law_1362 ?_
  obtain ⟨x14, ex14, H⟩ := zbind H
  refine z_iaload (pc := 1363) dL_law_1363 ex14 ?_
  obtain ⟨z15, H⟩ := zifE H
  obtain ⟨q16, eq16, H⟩ := zbind H
  refine z_callV (pc := 1364) (mc := mc) (ms := ms) (d' := 2) (mc' := 0) (ms' := 0) (rest := []) [.int x9, .int x10, .int x11, .int x12, .int x13, .int x14] dL_law_1364 md_X12_street ml_L_129 im_X12_street se_X12_street rfl z15 rfl rfl (Nat.le_of_ble_eq_true rfl) (by omega) (k_X12_street eq16) ?_
  refine z_pop (pc := 1367) dL_law_1367 rfl ?_
  refine z_goto (pc := 1368) 1470 dL_law_1368 (by decide) ?_
  cases H
  exact z_mono (Nat.le_refl _) (by omega) (by omega) (z_sub [0, 1, 2, 3, 4] rfl K)
def c_L_24 (N v0 v1 v2 : Nat) (v4 : Int32) (h : zH) : Option zH := (aI h v0 (v4 + 1)).bind fun x1 => (aI h v0 (v4 + 2)).bind fun x2 => zif (zob h v1 11) <| (f_X11_trip N v1 x1 x2 h).bind fun q4 => (aI q4.2 v0 (v4 + 1)).bind fun x5 => (aI q4.2 v0 (v4 + 2)).bind fun x6 => zif (zob q4.2 v2 12) <| (f_X12_trip N v2 x5 x6 q4.2).bind fun q8 => some q8.2
set_option maxRecDepth 100000 in
set_option maxHeartbeats 4000000 in
theorem kc_L_24 {N d mc ms v0 v1 v2 v3 : Nat} {v4 : Int32} {h h2 : zH} {vv : Option Value} {hh : zH} (hd0 : 3 ≤ d) (H : c_L_24 N v0 v1 v2 v4 h = some h2) (K : zW yL_law cL_law 7 (some .boolean) d mc ms 1470 [(0, .ref v0), (1, .ref v1), (2, .ref v2), (3, .ref v3), (4, .int v4)] [] h2 vv hh) : zW yL_law cL_law 7 (some .boolean) d (mc + 0) (ms + 0) 1371 [(0, .ref v0), (1, .ref v1), (2, .ref v2), (3, .ref v3), (4, .int v4)] [] h vv hh := by
  unfold c_L_24 at H
  refine z_aload_n (pc := 1371) 1 dL_law_1371 rfl rfl ?_
  refine z_aload_n (pc := 1372) 0 dL_law_1372 rfl rfl ?_
  refine z_iload (pc := 1373) 4 dL_law_1373 rfl ?_
  refine z_iconst (pc := 1375) (x := 1) dL_law_1375 zc_iconst_1 ?_
  refine z_iadd (pc := 1376) dL_law_1376 ?_
  obtain ⟨x1, ex1, H⟩ := zbind H
  refine z_iaload (pc := 1377) dL_law_1377 ex1 ?_
  refine z_aload_n (pc := 1378) 0 dL_law_1378 rfl rfl ?_
  refine z_iload (pc := 1379) 4 dL_law_1379 rfl ?_
  refine z_iconst (pc := 1381) (x := 2) dL_law_1381 zc_iconst_2 ?_
  refine z_iadd (pc := 1382) dL_law_1382 ?_
  obtain ⟨x2, ex2, H⟩ := zbind H
  refine z_iaload (pc := 1383) dL_law_1383 ex2 ?_
  obtain ⟨z3, H⟩ := zifE H
  obtain ⟨q4, eq4, H⟩ := zbind H
  refine z_callV (pc := 1384) (mc := mc) (ms := ms) (d' := 1) (mc' := 0) (ms' := 0) (rest := []) [.int x1, .int x2] dL_law_1384 md_X11_trip ml_L_130 im_X11_trip se_X11_trip rfl z3 rfl rfl (Nat.le_of_ble_eq_true rfl) (by omega) (k_X11_trip eq4) ?_
  refine z_pop (pc := 1387) dL_law_1387 rfl ?_
  refine z_aload_n (pc := 1388) 2 dL_law_1388 rfl rfl ?_
  refine z_aload_n (pc := 1389) 0 dL_law_1389 rfl rfl ?_
  refine z_iload (pc := 1390) 4 dL_law_1390 rfl ?_
  refine z_iconst (pc := 1392) (x := 1) dL_law_1392 zc_iconst_1 ?_
  refine z_iadd (pc := 1393) dL_law_1393 ?_
  obtain ⟨x5, ex5, H⟩ := zbind H
  refine z_iaload (pc := 1394) dL_law_1394 ex5 ?_
  refine z_aload_n (pc := 1395) 0 dL_law_1395 rfl rfl ?_
  refine z_iload (pc := 1396) 4 dL_law_1396 rfl ?_
  refine z_iconst (pc := 1398) (x := 2) dL_law_1398 zc_iconst_2 ?_
  refine z_iadd (pc := 1399) dL_law_1399 ?_
  obtain ⟨x6, ex6, H⟩ := zbind H
  refine z_iaload (pc := 1400) dL_law_1400 ex6 ?_
  obtain ⟨z7, H⟩ := zifE H
  obtain ⟨q8, eq8, H⟩ := zbind H
  refine z_callV (pc := 1401) (mc := mc) (ms := ms) (d' := 2) (mc' := 0) (ms' := 0) (rest := []) [.int x5, .int x6] dL_law_1401 md_X12_trip ml_L_133 im_X12_trip se_X12_trip rfl z7 rfl rfl (Nat.le_of_ble_eq_true rfl) (by omega) (k_X12_trip eq8) ?_
  refine z_pop (pc := 1404) dL_law_1404 rfl ?_
  refine z_goto (pc := 1405) 1470 dL_law_1405 (by decide) ?_
  cases H
  exact z_mono (Nat.le_refl _) (by omega) (by omega) (z_sub [0, 1, 2, 3, 4] rfl K)
def c_L_25 (N v0 v1 v2 : Nat) (v4 : Int32) (h : zH) : Option zH := (aI h v0 (v4 + 1)).bind fun x1 => (aI h v0 (v4 + 2)).bind fun x2 => zif (zob h v1 11) <| (f_X11_plan N v1 x1 x2 h).bind fun q4 => (aI q4.2 v0 (v4 + 1)).bind fun x5 => (aI q4.2 v0 (v4 + 2)).bind fun x6 => zif (zob q4.2 v2 12) <| (f_X12_plan N v2 x5 x6 q4.2).bind fun q8 => some q8.2
set_option maxRecDepth 100000 in
set_option maxHeartbeats 4000000 in
theorem kc_L_25 {N d mc ms v0 v1 v2 v3 : Nat} {v4 : Int32} {h h2 : zH} {vv : Option Value} {hh : zH} (hd0 : 15 ≤ d) (H : c_L_25 N v0 v1 v2 v4 h = some h2) (K : zW yL_law cL_law 7 (some .boolean) d mc ms 1470 [(0, .ref v0), (1, .ref v1), (2, .ref v2), (3, .ref v3), (4, .int v4)] [] h2 vv hh) : zW yL_law cL_law 7 (some .boolean) d (mc + 0) (ms + 0) 1408 [(0, .ref v0), (1, .ref v1), (2, .ref v2), (3, .ref v3), (4, .int v4)] [] h vv hh := by
  unfold c_L_25 at H
  refine z_aload_n (pc := 1408) 1 dL_law_1408 rfl rfl ?_
  refine z_aload_n (pc := 1409) 0 dL_law_1409 rfl rfl ?_
  refine z_iload (pc := 1410) 4 dL_law_1410 rfl ?_
  refine z_iconst (pc := 1412) (x := 1) dL_law_1412 zc_iconst_1 ?_
  refine z_iadd (pc := 1413) dL_law_1413 ?_
  obtain ⟨x1, ex1, H⟩ := zbind H
  refine z_iaload (pc := 1414) dL_law_1414 ex1 ?_
  refine z_aload_n (pc := 1415) 0 dL_law_1415 rfl rfl ?_
  refine z_iload (pc := 1416) 4 dL_law_1416 rfl ?_
  refine z_iconst (pc := 1418) (x := 2) dL_law_1418 zc_iconst_2 ?_
  refine z_iadd (pc := 1419) dL_law_1419 ?_
  obtain ⟨x2, ex2, H⟩ := zbind H
  refine z_iaload (pc := 1420) dL_law_1420 ex2 ?_
  obtain ⟨z3, H⟩ := zifE H
  obtain ⟨q4, eq4, H⟩ := zbind H
  refine z_callV (pc := 1421) (mc := mc) (ms := ms) (d' := 14) (mc' := 0) (ms' := 0) (rest := []) [.int x1, .int x2] dL_law_1421 md_X11_plan ml_L_134 im_X11_plan se_X11_plan rfl z3 rfl rfl (Nat.le_of_ble_eq_true rfl) (by omega) (k_X11_plan eq4) ?_
  refine z_pop (pc := 1424) dL_law_1424 rfl ?_
  refine z_aload_n (pc := 1425) 2 dL_law_1425 rfl rfl ?_
  refine z_aload_n (pc := 1426) 0 dL_law_1426 rfl rfl ?_
  refine z_iload (pc := 1427) 4 dL_law_1427 rfl ?_
  refine z_iconst (pc := 1429) (x := 1) dL_law_1429 zc_iconst_1 ?_
  refine z_iadd (pc := 1430) dL_law_1430 ?_
  obtain ⟨x5, ex5, H⟩ := zbind H
  refine z_iaload (pc := 1431) dL_law_1431 ex5 ?_
  refine z_aload_n (pc := 1432) 0 dL_law_1432 rfl rfl ?_
  refine z_iload (pc := 1433) 4 dL_law_1433 rfl ?_
  refine z_iconst (pc := 1435) (x := 2) dL_law_1435 zc_iconst_2 ?_
  refine z_iadd (pc := 1436) dL_law_1436 ?_
  obtain ⟨x6, ex6, H⟩ := zbind H
  refine z_iaload (pc := 1437) dL_law_1437 ex6 ?_
  obtain ⟨z7, H⟩ := zifE H
  obtain ⟨q8, eq8, H⟩ := zbind H
  refine z_callV (pc := 1438) (mc := mc) (ms := ms) (d' := 4) (mc' := 0) (ms' := 0) (rest := []) [.int x5, .int x6] dL_law_1438 md_X12_plan ml_L_137 im_X12_plan se_X12_plan rfl z7 rfl rfl (Nat.le_of_ble_eq_true rfl) (by omega) (k_X12_plan eq8) ?_
  refine z_pop (pc := 1441) dL_law_1441 rfl ?_
  refine z_goto (pc := 1442) 1470 dL_law_1442 (by decide) ?_
  cases H
  exact z_mono (Nat.le_refl _) (by omega) (by omega) (z_sub [0, 1, 2, 3, 4] rfl K)
def c_L_26 (N v0 v1 v2 : Nat) (v4 : Int32) (h : zH) : Option zH := (aI h v0 (v4 + 1)).bind fun x1 => zif (zob h v1 11) <| (f_X11_count N v1 x1 h).bind fun q3 => (aI h v0 (v4 + 1)).bind fun x4 => zif (zob h v2 12) <| (f_X12_count N v2 x4 h).bind fun q6 => some q6.2
set_option maxRecDepth 100000 in
set_option maxHeartbeats 4000000 in
theorem kc_L_26 {N d mc ms v0 v1 v2 v3 : Nat} {v4 : Int32} {h h2 : zH} {vv : Option Value} {hh : zH} (hd0 : 4 ≤ d) (H : c_L_26 N v0 v1 v2 v4 h = some h2) (K : zW yL_law cL_law 7 (some .boolean) d mc ms 1470 [(0, .ref v0), (1, .ref v1), (2, .ref v2), (3, .ref v3), (4, .int v4)] [] h2 vv hh) : zW yL_law cL_law 7 (some .boolean) d (mc + 0) (ms + 0) 1445 [(0, .ref v0), (1, .ref v1), (2, .ref v2), (3, .ref v3), (4, .int v4)] [] h vv hh := by
  unfold c_L_26 at H
  refine z_aload_n (pc := 1445) 1 dL_law_1445 rfl rfl ?_
  refine z_aload_n (pc := 1446) 0 dL_law_1446 rfl rfl ?_
  refine z_iload (pc := 1447) 4 dL_law_1447 rfl ?_
  refine z_iconst (pc := 1449) (x := 1) dL_law_1449 zc_iconst_1 ?_
  refine z_iadd (pc := 1450) dL_law_1450 ?_
  obtain ⟨x1, ex1, H⟩ := zbind H
  refine z_iaload (pc := 1451) dL_law_1451 ex1 ?_
  obtain ⟨z2, H⟩ := zifE H
  obtain ⟨q3, eq3, H⟩ := zbind H
  refine z_callV (pc := 1452) (mc := mc) (ms := ms) (d' := 3) (mc' := 0) (ms' := 0) (rest := []) [.int x1] dL_law_1452 md_X11_count ml_L_138 im_X11_count se_X11_count rfl z2 rfl rfl (Nat.le_of_ble_eq_true rfl) (by omega) (k_X11_count eq3) ?_
  refine z_pop (pc := 1455) dL_law_1455 rfl ?_
  refine z_aload_n (pc := 1456) 2 dL_law_1456 rfl rfl ?_
  refine z_aload_n (pc := 1457) 0 dL_law_1457 rfl rfl ?_
  refine z_iload (pc := 1458) 4 dL_law_1458 rfl ?_
  refine z_iconst (pc := 1460) (x := 1) dL_law_1460 zc_iconst_1 ?_
  refine z_iadd (pc := 1461) dL_law_1461 ?_
  obtain ⟨x4, ex4, H⟩ := zbind H
  refine z_iaload (pc := 1462) dL_law_1462 ex4 ?_
  obtain ⟨z5, H⟩ := zifE H
  obtain ⟨q6, eq6, H⟩ := zbind H
  refine z_callV (pc := 1463) (mc := mc) (ms := ms) (d' := 3) (mc' := 0) (ms' := 0) (rest := []) [.int x4] dL_law_1463 md_X12_count ml_L_141 im_X12_count se_X12_count rfl z5 rfl rfl (Nat.le_of_ble_eq_true rfl) (by omega) (k_X12_count eq6) ?_
  refine z_pop (pc := 1466) dL_law_1466 rfl ?_
  refine z_goto (pc := 1467) 1470 dL_law_1467 (by decide) ?_
  cases H
  exact z_mono (Nat.le_refl _) (by omega) (by omega) (z_sub [0, 1, 2, 3, 4] rfl K)
