theorem zc_iconst_0 : Int32.ofInt (0) = (0 : Int32) := by decide
theorem zc_iconst_1 : Int32.ofInt (1) = (1 : Int32) := by decide
theorem zc_iconst_m1 : Int32.ofInt (-1) = (-1 : Int32) := by decide
theorem zc_bipush_40 : (Int8.ofInt (40)).toInt32 = (40 : Int32) := by decide
theorem zc_bipush_m8 : (Int8.ofInt (-8)).toInt32 = (-8 : Int32) := by decide
theorem zc_bipush_8 : (Int8.ofInt (8)).toInt32 = (8 : Int32) := by decide
theorem zc_bipush_60 : (Int8.ofInt (60)).toInt32 = (60 : Int32) := by decide
theorem ml_X8_3 : Cond.methodLink RX8 3 objectInit ∈ zB := zmem 153 (by decide +kernel) rfl
theorem im_object : Cond.instanceMethod objectInit ∈ zB := zmem 144 (by decide +kernel) rfl
theorem cd_object : Cond.code objectInit ⟨#[0xb1]⟩ 1 none ∈ zB := zmem 145 (by decide +kernel) rfl
theorem fd_X8_103 : zFd RX8 103 6 7 (.int) false "WhoseStreet$Meeting" := zFd.of cl_6 (by decide) (zmem 579 (by decide +kernel) rfl) rfl rfl rfl
theorem fd_X8_49 : zFd RX8 49 8 0 (.int) false "WhoseStreet$Ride" := zFd.of cl_8 (by decide) (zmem 154 (by decide +kernel) rfl) rfl rfl rfl
theorem fd_X8_53 : zFd RX8 53 8 1 (.int) false "WhoseStreet$Ride" := zFd.of cl_8 (by decide) (zmem 156 (by decide +kernel) rfl) rfl rfl rfl
theorem fd_X8_106 : zFd RX8 106 6 8 (.int) false "WhoseStreet$Meeting" := zFd.of cl_6 (by decide) (zmem 581 (by decide +kernel) rfl) rfl rfl rfl
theorem fd_X8_25 : zFd RX8 25 8 4 (.int) false "WhoseStreet$Ride" := zFd.of cl_8 (by decide) (zmem 160 (by decide +kernel) rfl) rfl rfl rfl
theorem fd_X8_54 : zFd RX8 54 8 3 (.int) false "WhoseStreet$Ride" := zFd.of cl_8 (by decide) (zmem 159 (by decide +kernel) rfl) rfl rfl rfl
theorem fs_X8_94 : Cond.fieldLink RX8 94 "WhoseStreet$Ride" "BRAKES" "[I" ∈ zB := zmem 658 (by decide +kernel) rfl
theorem fd_X8_33 : zFd RX8 33 8 2 (.int) false "WhoseStreet$Ride" := zFd.of cl_8 (by decide) (zmem 158 (by decide +kernel) rfl) rfl rfl rfl
theorem ml_X8_98 : Cond.methodLink RX8 98 Lib.Math.max.name ∈ zB := zmem 660 (by decide +kernel) rfl
theorem mx_1 : Cond.static Lib.Math.max.name ∈ zB := zmem 661 (by decide +kernel) rfl
theorem mx_2 : Cond.initialized "java/lang/Math" ∈ zB := zmem 129 (by decide +kernel) rfl
theorem mx_3 : Cond.code Lib.Math.max.name Lib.Math.max.code 2 (some .int) ∈ zB := zmem 662 (by decide +kernel) rfl
theorem md_X8_sees : zMd yX8_sees cX8_sees 3 1 (some .boolean) := ⟨zmem 646 (by decide +kernel) rfl, zmem 113 (by decide +kernel) rfl, by decide, by decide, by decide +kernel, by decide⟩
theorem ml_X8_61 : Cond.methodLink RX8 61 yX8_sees ∈ zB := zmem 643 (by decide +kernel) rfl
theorem im_X8_sees : Cond.instanceMethod yX8_sees ∈ zB := zmem 645 (by decide +kernel) rfl
theorem se_X8_sees : Cond.selects yX8_sees.cls yX8_sees yX8_sees ∈ zB := zmem 1 (by decide +kernel) rfl
theorem md_X8_notice : zMd yX8_notice cX8_notice 2 1 none := ⟨zmem 650 (by decide +kernel) rfl, zmem 113 (by decide +kernel) rfl, by decide, by decide, by decide +kernel, by decide⟩
theorem ml_X8_65 : Cond.methodLink RX8 65 yX8_notice ∈ zB := zmem 647 (by decide +kernel) rfl
theorem im_X8_notice : Cond.instanceMethod yX8_notice ∈ zB := zmem 649 (by decide +kernel) rfl
theorem se_X8_notice : Cond.selects yX8_notice.cls yX8_notice yX8_notice ∈ zB := zmem 2 (by decide +kernel) rfl
theorem fd_X8_69 : zFd RX8 69 6 5 (.boolean) true "WhoseStreet$Meeting" := zFd.of cl_6 (by decide) (zmem 575 (by decide +kernel) rfl) rfl rfl rfl
theorem md_X11_up : zMd yX11_up cX11_up 2 2 (some .int) := ⟨zmem 653 (by decide +kernel) rfl, zmem 112 (by decide +kernel) rfl, by decide, by decide, by decide +kernel, by decide⟩
theorem ns_X8_73 : (RX8, 73, yX11_up, "WhoseStreet") ∈ zNs := by decide +kernel
theorem sm_X11_up : Cond.static yX11_up ∈ zB := zmem 652 (by decide +kernel) rfl
theorem fd_X8_77 : zFd RX8 77 6 4 (.int) true "WhoseStreet$Meeting" := zFd.of cl_6 (by decide) (zmem 573 (by decide +kernel) rfl) rfl rfl rfl
theorem fd_X8_80 : zFd RX8 80 6 2 (.int) true "WhoseStreet$Meeting" := zFd.of cl_6 (by decide) (zmem 569 (by decide +kernel) rfl) rfl rfl rfl
theorem fd_X8_83 : zFd RX8 83 6 9 (.int) false "WhoseStreet$Meeting" := zFd.of cl_6 (by decide) (zmem 584 (by decide +kernel) rfl) rfl rfl rfl
theorem md_X8_brake : zMd yX8_brake cX8_brake 2 1 none := ⟨zmem 657 (by decide +kernel) rfl, zmem 113 (by decide +kernel) rfl, by decide, by decide, by decide +kernel, by decide⟩
theorem ml_X8_86 : Cond.methodLink RX8 86 yX8_brake ∈ zB := zmem 654 (by decide +kernel) rfl
theorem im_X8_brake : Cond.instanceMethod yX8_brake ∈ zB := zmem 656 (by decide +kernel) rfl
theorem se_X8_brake : Cond.selects yX8_brake.cls yX8_brake yX8_brake ∈ zB := zmem 3 (by decide +kernel) rfl
theorem fd_X8_29 : zFd RX8 29 8 5 (.int) false "WhoseStreet$Ride" := zFd.of cl_8 (by decide) (zmem 161 (by decide +kernel) rfl) rfl rfl rfl
theorem md_X11_within : zMd yX11_within cX11_within 3 3 (some .boolean) := ⟨zmem 549 (by decide +kernel) rfl, zmem 112 (by decide +kernel) rfl, by decide, by decide, by decide +kernel, by decide⟩
theorem ns_X8_90 : (RX8, 90, yX11_within, "WhoseStreet") ∈ zNs := by decide +kernel
theorem sm_X11_within : Cond.static yX11_within ∈ zB := zmem 548 (by decide +kernel) rfl
theorem fd_X8_21 : zFd RX8 21 8 6 (.int) false "WhoseStreet$Ride" := zFd.of cl_8 (by decide) (zmem 162 (by decide +kernel) rfl) rfl rfl rfl
theorem fd_X8_46 : zFd RX8 46 6 0 (.int) true "WhoseStreet$Meeting" := zFd.of cl_6 (by decide) (zmem 564 (by decide +kernel) rfl) rfl rfl rfl
theorem fd_X8_50 : zFd RX8 50 6 3 (.int) true "WhoseStreet$Meeting" := zFd.of cl_6 (by decide) (zmem 571 (by decide +kernel) rfl) rfl rfl rfl
theorem md_X8_goOn : zMd yX8_goOn cX8_goOn 4 1 none := ⟨zmem 642 (by decide +kernel) rfl, zmem 113 (by decide +kernel) rfl, by decide, by decide, by decide +kernel, by decide⟩
theorem ml_X8_57 : Cond.methodLink RX8 57 yX8_goOn ∈ zB := zmem 639 (by decide +kernel) rfl
theorem im_X8_goOn : Cond.instanceMethod yX8_goOn ∈ zB := zmem 641 (by decide +kernel) rfl
theorem se_X8_goOn : Cond.selects yX8_goOn.cls yX8_goOn yX8_goOn ∈ zB := zmem 0 (by decide +kernel) rfl
theorem fd_X8_9 : zFd RX8 9 6 1 (.int) true "WhoseStreet$Meeting" := zFd.of cl_6 (by decide) (zmem 566 (by decide +kernel) rfl) rfl rfl rfl
theorem md_X8_go : zMd yX8_go cX8_go 5 3 none := ⟨zmem 638 (by decide +kernel) rfl, zmem 113 (by decide +kernel) rfl, by decide, by decide, by decide +kernel, by decide⟩
theorem ml_X8_17 : Cond.methodLink RX8 17 yX8_go ∈ zB := zmem 635 (by decide +kernel) rfl
theorem im_X8_go : Cond.instanceMethod yX8_go ∈ zB := zmem 636 (by decide +kernel) rfl
theorem se_X8_go : Cond.selects yX8_go.cls yX8_go yX8_go ∈ zB := zmem 637 (by decide +kernel) rfl
theorem fd_X8_24 : zFd RX8 24 6 11 (.int) false "WhoseStreet$Meeting" := zFd.of cl_6 (by decide) (zmem 588 (by decide +kernel) rfl) rfl rfl rfl
theorem fd_X8_28 : zFd RX8 28 6 12 (.int) false "WhoseStreet$Meeting" := zFd.of cl_6 (by decide) (zmem 590 (by decide +kernel) rfl) rfl rfl rfl
theorem fd_X8_32 : zFd RX8 32 6 13 (.int) false "WhoseStreet$Meeting" := zFd.of cl_6 (by decide) (zmem 593 (by decide +kernel) rfl) rfl rfl rfl
theorem fd_X8_36 : zFd RX8 36 6 14 (.int) false "WhoseStreet$Meeting" := zFd.of cl_6 (by decide) (zmem 595 (by decide +kernel) rfl) rfl rfl rfl
theorem fd_X8_39 : zFd RX8 39 6 15 (.int) false "WhoseStreet$Meeting" := zFd.of cl_6 (by decide) (zmem 597 (by decide +kernel) rfl) rfl rfl rfl
theorem md_X8_findSafeSpeed : zMd yX8_findSafeSpeed cX8_findSafeSpeed 3 1 (some .int) := ⟨zmem 683 (by decide +kernel) rfl, zmem 113 (by decide +kernel) rfl, by decide, by decide, by decide +kernel, by decide⟩
theorem ml_X8_42 : Cond.methodLink RX8 42 yX8_findSafeSpeed ∈ zB := zmem 680 (by decide +kernel) rfl
theorem im_X8_findSafeSpeed : Cond.instanceMethod yX8_findSafeSpeed ∈ zB := zmem 682 (by decide +kernel) rfl
theorem se_X8_findSafeSpeed : Cond.selects yX8_findSafeSpeed.cls yX8_findSafeSpeed yX8_findSafeSpeed ∈ zB := zmem 5 (by decide +kernel) rfl
