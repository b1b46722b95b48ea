set_option maxRecDepth 20000
set_option maxHeartbeats 4000000
set_option linter.all false
/-! the words of the law's own calls -/
theorem ckL_19 : Cond.constantLong RL 19 4294967295 ∈ WD := WD_mem (i := 2066) (by decide +kernel) rfl
theorem ykX11_feed : yok yX11_feed 3 := by unfold yok; decide +kernel
theorem wcX11_feed : Cond.code yX11_feed cX11_feed 7 (some .int) ∈ WD := WD_mem (i := 532) rfl rfl
theorem wiX11_feed : Cond.initialized (yX11_feed).cls ∈ WD := WD_mem (i := 119) (by decide +kernel) rfl
theorem wnX11_feed : Cond.instanceMethod yX11_feed ∈ WD := WD_mem (i := 530) (by decide +kernel) rfl
theorem weX11_feed : Cond.selects (yX11_feed).cls yX11_feed yX11_feed ∈ WD := WD_mem (i := 531) (by decide +kernel) rfl
theorem ykX12_feed : yok yX12_feed 3 := by unfold yok; decide +kernel
theorem wcX12_feed : Cond.code yX12_feed cX12_feed 7 (some .int) ∈ WD := WD_mem (i := 1456) rfl rfl
theorem wiX12_feed : Cond.initialized (yX12_feed).cls ∈ WD := WD_mem (i := 131) (by decide +kernel) rfl
theorem wnX12_feed : Cond.instanceMethod yX12_feed ∈ WD := WD_mem (i := 1454) (by decide +kernel) rfl
theorem weX12_feed : Cond.selects (yX12_feed).cls yX12_feed yX12_feed ∈ WD := WD_mem (i := 1455) (by decide +kernel) rfl
theorem ykX11_hills : yok yX11_hills 0 := by unfold yok; decide +kernel
theorem wcX11_hills : Cond.code yX11_hills cX11_hills 3 (some .int) ∈ WD := WD_mem (i := 540) rfl rfl
theorem wiX11_hills : Cond.initialized (yX11_hills).cls ∈ WD := WD_mem (i := 119) (by decide +kernel) rfl
theorem wnX11_hills : Cond.instanceMethod yX11_hills ∈ WD := WD_mem (i := 538) (by decide +kernel) rfl
theorem weX11_hills : Cond.selects (yX11_hills).cls yX11_hills yX11_hills ∈ WD := WD_mem (i := 539) (by decide +kernel) rfl
theorem ykX12_hills : yok yX12_hills 0 := by unfold yok; decide +kernel
theorem wcX12_hills : Cond.code yX12_hills cX12_hills 2 (some .int) ∈ WD := WD_mem (i := 1591) rfl rfl
theorem wiX12_hills : Cond.initialized (yX12_hills).cls ∈ WD := WD_mem (i := 131) (by decide +kernel) rfl
theorem wnX12_hills : Cond.instanceMethod yX12_hills ∈ WD := WD_mem (i := 1589) (by decide +kernel) rfl
theorem weX12_hills : Cond.selects (yX12_hills).cls yX12_hills yX12_hills ∈ WD := WD_mem (i := 1590) (by decide +kernel) rfl
theorem ykX11_trip : yok yX11_trip 0 := by unfold yok; decide +kernel
theorem wcX11_trip : Cond.code yX11_trip cX11_trip 3 (some .int) ∈ WD := WD_mem (i := 744) rfl rfl
theorem wiX11_trip : Cond.initialized (yX11_trip).cls ∈ WD := WD_mem (i := 119) (by decide +kernel) rfl
theorem wnX11_trip : Cond.instanceMethod yX11_trip ∈ WD := WD_mem (i := 742) (by decide +kernel) rfl
theorem weX11_trip : Cond.selects (yX11_trip).cls yX11_trip yX11_trip ∈ WD := WD_mem (i := 743) (by decide +kernel) rfl
theorem ykX12_trip : yok yX12_trip 0 := by unfold yok; decide +kernel
theorem wcX12_trip : Cond.code yX12_trip cX12_trip 4 (some .int) ∈ WD := WD_mem (i := 1706) rfl rfl
theorem wiX12_trip : Cond.initialized (yX12_trip).cls ∈ WD := WD_mem (i := 131) (by decide +kernel) rfl
theorem wnX12_trip : Cond.instanceMethod yX12_trip ∈ WD := WD_mem (i := 1704) (by decide +kernel) rfl
theorem weX12_trip : Cond.selects (yX12_trip).cls yX12_trip yX12_trip ∈ WD := WD_mem (i := 1705) (by decide +kernel) rfl
theorem ykX11_hut : yok yX11_hut 2 := by unfold yok; decide +kernel
theorem wcX11_hut : Cond.code yX11_hut cX11_hut 3 (some .int) ∈ WD := WD_mem (i := 761) rfl rfl
theorem wiX11_hut : Cond.initialized (yX11_hut).cls ∈ WD := WD_mem (i := 119) (by decide +kernel) rfl
theorem wnX11_hut : Cond.instanceMethod yX11_hut ∈ WD := WD_mem (i := 759) (by decide +kernel) rfl
theorem weX11_hut : Cond.selects (yX11_hut).cls yX11_hut yX11_hut ∈ WD := WD_mem (i := 760) (by decide +kernel) rfl
theorem ykX12_hut : yok yX12_hut 2 := by unfold yok; decide +kernel
theorem wcX12_hut : Cond.code yX12_hut cX12_hut 3 (some .int) ∈ WD := WD_mem (i := 1710) rfl rfl
theorem wiX12_hut : Cond.initialized (yX12_hut).cls ∈ WD := WD_mem (i := 131) (by decide +kernel) rfl
theorem wnX12_hut : Cond.instanceMethod yX12_hut ∈ WD := WD_mem (i := 1708) (by decide +kernel) rfl
theorem weX12_hut : Cond.selects (yX12_hut).cls yX12_hut yX12_hut ∈ WD := WD_mem (i := 1709) (by decide +kernel) rfl
theorem ykX11_price : yok yX11_price 2 := by unfold yok; decide +kernel
theorem wcX11_price : Cond.code yX11_price cX11_price 3 (some .int) ∈ WD := WD_mem (i := 779) rfl rfl
theorem wiX11_price : Cond.initialized (yX11_price).cls ∈ WD := WD_mem (i := 119) (by decide +kernel) rfl
theorem wnX11_price : Cond.instanceMethod yX11_price ∈ WD := WD_mem (i := 777) (by decide +kernel) rfl
theorem weX11_price : Cond.selects (yX11_price).cls yX11_price yX11_price ∈ WD := WD_mem (i := 778) (by decide +kernel) rfl
theorem ykX12_price : yok yX12_price 2 := by unfold yok; decide +kernel
theorem wcX12_price : Cond.code yX12_price cX12_price 3 (some .int) ∈ WD := WD_mem (i := 1733) rfl rfl
theorem wiX12_price : Cond.initialized (yX12_price).cls ∈ WD := WD_mem (i := 131) (by decide +kernel) rfl
theorem wnX12_price : Cond.instanceMethod yX12_price ∈ WD := WD_mem (i := 1731) (by decide +kernel) rfl
theorem weX12_price : Cond.selects (yX12_price).cls yX12_price yX12_price ∈ WD := WD_mem (i := 1732) (by decide +kernel) rfl
theorem ykX11_can : yok yX11_can 2 := by unfold yok; decide +kernel
theorem wcX11_can : Cond.code yX11_can cX11_can 3 (some .boolean) ∈ WD := WD_mem (i := 791) rfl rfl
theorem wiX11_can : Cond.initialized (yX11_can).cls ∈ WD := WD_mem (i := 119) (by decide +kernel) rfl
theorem wnX11_can : Cond.instanceMethod yX11_can ∈ WD := WD_mem (i := 789) (by decide +kernel) rfl
theorem weX11_can : Cond.selects (yX11_can).cls yX11_can yX11_can ∈ WD := WD_mem (i := 790) (by decide +kernel) rfl
theorem ykX12_can : yok yX12_can 2 := by unfold yok; decide +kernel
theorem wcX12_can : Cond.code yX12_can cX12_can 3 (some .boolean) ∈ WD := WD_mem (i := 1741) rfl rfl
theorem wiX12_can : Cond.initialized (yX12_can).cls ∈ WD := WD_mem (i := 131) (by decide +kernel) rfl
theorem wnX12_can : Cond.instanceMethod yX12_can ∈ WD := WD_mem (i := 1739) (by decide +kernel) rfl
theorem weX12_can : Cond.selects (yX12_can).cls yX12_can yX12_can ∈ WD := WD_mem (i := 1740) (by decide +kernel) rfl
theorem ykX11_carry : yok yX11_carry 2 := by unfold yok; decide +kernel
theorem wcX11_carry : Cond.code yX11_carry cX11_carry 4 (some .int) ∈ WD := WD_mem (i := 819) rfl rfl
theorem wiX11_carry : Cond.initialized (yX11_carry).cls ∈ WD := WD_mem (i := 119) (by decide +kernel) rfl
theorem wnX11_carry : Cond.instanceMethod yX11_carry ∈ WD := WD_mem (i := 817) (by decide +kernel) rfl
theorem weX11_carry : Cond.selects (yX11_carry).cls yX11_carry yX11_carry ∈ WD := WD_mem (i := 818) (by decide +kernel) rfl
theorem ykX12_carry : yok yX12_carry 2 := by unfold yok; decide +kernel
theorem wcX12_carry : Cond.code yX12_carry cX12_carry 3 (some .int) ∈ WD := WD_mem (i := 1760) rfl rfl
theorem wiX12_carry : Cond.initialized (yX12_carry).cls ∈ WD := WD_mem (i := 131) (by decide +kernel) rfl
theorem wnX12_carry : Cond.instanceMethod yX12_carry ∈ WD := WD_mem (i := 1758) (by decide +kernel) rfl
theorem weX12_carry : Cond.selects (yX12_carry).cls yX12_carry yX12_carry ∈ WD := WD_mem (i := 1759) (by decide +kernel) rfl
theorem ykX11_lay : yok yX11_lay 1 := by unfold yok; decide +kernel
theorem wcX11_lay : Cond.code yX11_lay cX11_lay 2 (some .int) ∈ WD := WD_mem (i := 828) rfl rfl
theorem wiX11_lay : Cond.initialized (yX11_lay).cls ∈ WD := WD_mem (i := 119) (by decide +kernel) rfl
theorem wnX11_lay : Cond.instanceMethod yX11_lay ∈ WD := WD_mem (i := 826) (by decide +kernel) rfl
theorem weX11_lay : Cond.selects (yX11_lay).cls yX11_lay yX11_lay ∈ WD := WD_mem (i := 827) (by decide +kernel) rfl
theorem ykX12_lay_ : yok yX12_lay_ 1 := by unfold yok; decide +kernel
theorem wcX12_lay_ : Cond.code yX12_lay_ cX12_lay_ 2 (some .int) ∈ WD := WD_mem (i := 1780) rfl rfl
theorem wiX12_lay_ : Cond.initialized (yX12_lay_).cls ∈ WD := WD_mem (i := 131) (by decide +kernel) rfl
theorem wnX12_lay_ : Cond.instanceMethod yX12_lay_ ∈ WD := WD_mem (i := 1778) (by decide +kernel) rfl
theorem weX12_lay_ : Cond.selects (yX12_lay_).cls yX12_lay_ yX12_lay_ ∈ WD := WD_mem (i := 1779) (by decide +kernel) rfl
theorem ykX11_eat : yok yX11_eat 1 := by unfold yok; decide +kernel
theorem wcX11_eat : Cond.code yX11_eat cX11_eat 2 (some .int) ∈ WD := WD_mem (i := 841) rfl rfl
theorem wiX11_eat : Cond.initialized (yX11_eat).cls ∈ WD := WD_mem (i := 119) (by decide +kernel) rfl
theorem wnX11_eat : Cond.instanceMethod yX11_eat ∈ WD := WD_mem (i := 839) (by decide +kernel) rfl
theorem weX11_eat : Cond.selects (yX11_eat).cls yX11_eat yX11_eat ∈ WD := WD_mem (i := 840) (by decide +kernel) rfl
theorem ykX12_eat : yok yX12_eat 1 := by unfold yok; decide +kernel
theorem wcX12_eat : Cond.code yX12_eat cX12_eat 2 (some .int) ∈ WD := WD_mem (i := 1784) rfl rfl
theorem wiX12_eat : Cond.initialized (yX12_eat).cls ∈ WD := WD_mem (i := 131) (by decide +kernel) rfl
theorem wnX12_eat : Cond.instanceMethod yX12_eat ∈ WD := WD_mem (i := 1782) (by decide +kernel) rfl
theorem weX12_eat : Cond.selects (yX12_eat).cls yX12_eat yX12_eat ∈ WD := WD_mem (i := 1783) (by decide +kernel) rfl
theorem ykX11_undo : yok yX11_undo 0 := by unfold yok; decide +kernel
theorem wcX11_undo : Cond.code yX11_undo cX11_undo 1 (some .boolean) ∈ WD := WD_mem (i := 849) rfl rfl
theorem wiX11_undo : Cond.initialized (yX11_undo).cls ∈ WD := WD_mem (i := 119) (by decide +kernel) rfl
theorem wnX11_undo : Cond.instanceMethod yX11_undo ∈ WD := WD_mem (i := 847) (by decide +kernel) rfl
theorem weX11_undo : Cond.selects (yX11_undo).cls yX11_undo yX11_undo ∈ WD := WD_mem (i := 848) (by decide +kernel) rfl
theorem ykX12_undo : yok yX12_undo 0 := by unfold yok; decide +kernel
theorem wcX12_undo : Cond.code yX12_undo cX12_undo 1 (some .boolean) ∈ WD := WD_mem (i := 1788) rfl rfl
theorem wiX12_undo : Cond.initialized (yX12_undo).cls ∈ WD := WD_mem (i := 131) (by decide +kernel) rfl
theorem wnX12_undo : Cond.instanceMethod yX12_undo ∈ WD := WD_mem (i := 1786) (by decide +kernel) rfl
theorem weX12_undo : Cond.selects (yX12_undo).cls yX12_undo yX12_undo ∈ WD := WD_mem (i := 1787) (by decide +kernel) rfl
theorem ykX11_judged : yok yX11_judged 1 := by unfold yok; decide +kernel
theorem wcX11_judged : Cond.code yX11_judged cX11_judged 2 (some .int) ∈ WD := WD_mem (i := 857) rfl rfl
theorem wiX11_judged : Cond.initialized (yX11_judged).cls ∈ WD := WD_mem (i := 119) (by decide +kernel) rfl
theorem wnX11_judged : Cond.instanceMethod yX11_judged ∈ WD := WD_mem (i := 855) (by decide +kernel) rfl
theorem weX11_judged : Cond.selects (yX11_judged).cls yX11_judged yX11_judged ∈ WD := WD_mem (i := 856) (by decide +kernel) rfl
theorem ykX12_judged : yok yX12_judged 1 := by unfold yok; decide +kernel
theorem wcX12_judged : Cond.code yX12_judged cX12_judged 9 (some .int) ∈ WD := WD_mem (i := 1792) rfl rfl
theorem wiX12_judged : Cond.initialized (yX12_judged).cls ∈ WD := WD_mem (i := 131) (by decide +kernel) rfl
theorem wnX12_judged : Cond.instanceMethod yX12_judged ∈ WD := WD_mem (i := 1790) (by decide +kernel) rfl
theorem weX12_judged : Cond.selects (yX12_judged).cls yX12_judged yX12_judged ∈ WD := WD_mem (i := 1791) (by decide +kernel) rfl
theorem ykX11_most : yok yX11_most 1 := by unfold yok; decide +kernel
theorem wcX11_most : Cond.code yX11_most cX11_most 2 (some .int) ∈ WD := WD_mem (i := 882) rfl rfl
theorem wiX11_most : Cond.initialized (yX11_most).cls ∈ WD := WD_mem (i := 119) (by decide +kernel) rfl
theorem wnX11_most : Cond.instanceMethod yX11_most ∈ WD := WD_mem (i := 880) (by decide +kernel) rfl
theorem weX11_most : Cond.selects (yX11_most).cls yX11_most yX11_most ∈ WD := WD_mem (i := 881) (by decide +kernel) rfl
theorem ykX12_most : yok yX12_most 1 := by unfold yok; decide +kernel
theorem wcX12_most : Cond.code yX12_most cX12_most 2 (some .int) ∈ WD := WD_mem (i := 1800) rfl rfl
theorem wiX12_most : Cond.initialized (yX12_most).cls ∈ WD := WD_mem (i := 131) (by decide +kernel) rfl
theorem wnX12_most : Cond.instanceMethod yX12_most ∈ WD := WD_mem (i := 1798) (by decide +kernel) rfl
theorem weX12_most : Cond.selects (yX12_most).cls yX12_most yX12_most ∈ WD := WD_mem (i := 1799) (by decide +kernel) rfl
theorem ykX11_least : yok yX11_least 1 := by unfold yok; decide +kernel
theorem wcX11_least : Cond.code yX11_least cX11_least 2 (some .int) ∈ WD := WD_mem (i := 949) rfl rfl
theorem wiX11_least : Cond.initialized (yX11_least).cls ∈ WD := WD_mem (i := 119) (by decide +kernel) rfl
theorem wnX11_least : Cond.instanceMethod yX11_least ∈ WD := WD_mem (i := 947) (by decide +kernel) rfl
theorem weX11_least : Cond.selects (yX11_least).cls yX11_least yX11_least ∈ WD := WD_mem (i := 948) (by decide +kernel) rfl
theorem ykX12_least : yok yX12_least 1 := by unfold yok; decide +kernel
theorem wcX12_least : Cond.code yX12_least cX12_least 2 (some .int) ∈ WD := WD_mem (i := 1848) rfl rfl
theorem wiX12_least : Cond.initialized (yX12_least).cls ∈ WD := WD_mem (i := 131) (by decide +kernel) rfl
theorem wnX12_least : Cond.instanceMethod yX12_least ∈ WD := WD_mem (i := 1846) (by decide +kernel) rfl
theorem weX12_least : Cond.selects (yX12_least).cls yX12_least yX12_least ∈ WD := WD_mem (i := 1847) (by decide +kernel) rfl
theorem ykX11_row : yok yX11_row 2 := by unfold yok; decide +kernel
theorem wcX11_row : Cond.code yX11_row cX11_row 3 (some .int) ∈ WD := WD_mem (i := 995) rfl rfl
theorem wiX11_row : Cond.initialized (yX11_row).cls ∈ WD := WD_mem (i := 119) (by decide +kernel) rfl
theorem wnX11_row : Cond.instanceMethod yX11_row ∈ WD := WD_mem (i := 993) (by decide +kernel) rfl
theorem weX11_row : Cond.selects (yX11_row).cls yX11_row yX11_row ∈ WD := WD_mem (i := 994) (by decide +kernel) rfl
theorem ykX12_row : yok yX12_row 2 := by unfold yok; decide +kernel
theorem wcX12_row : Cond.code yX12_row cX12_row 9 (some .int) ∈ WD := WD_mem (i := 1856) rfl rfl
theorem wiX12_row : Cond.initialized (yX12_row).cls ∈ WD := WD_mem (i := 131) (by decide +kernel) rfl
theorem wnX12_row : Cond.instanceMethod yX12_row ∈ WD := WD_mem (i := 1854) (by decide +kernel) rfl
theorem weX12_row : Cond.selects (yX12_row).cls yX12_row yX12_row ∈ WD := WD_mem (i := 1855) (by decide +kernel) rfl
theorem ykX11_ways : yok yX11_ways 1 := by unfold yok; decide +kernel
theorem wcX11_ways : Cond.code yX11_ways cX11_ways 3 (some .int) ∈ WD := WD_mem (i := 1013) rfl rfl
theorem wiX11_ways : Cond.initialized (yX11_ways).cls ∈ WD := WD_mem (i := 119) (by decide +kernel) rfl
theorem wnX11_ways : Cond.instanceMethod yX11_ways ∈ WD := WD_mem (i := 1011) (by decide +kernel) rfl
theorem weX11_ways : Cond.selects (yX11_ways).cls yX11_ways yX11_ways ∈ WD := WD_mem (i := 1012) (by decide +kernel) rfl
theorem ykX12_ways : yok yX12_ways 1 := by unfold yok; decide +kernel
theorem wcX12_ways : Cond.code yX12_ways cX12_ways 2 (some .int) ∈ WD := WD_mem (i := 1852) rfl rfl
theorem wiX12_ways : Cond.initialized (yX12_ways).cls ∈ WD := WD_mem (i := 131) (by decide +kernel) rfl
theorem wnX12_ways : Cond.instanceMethod yX12_ways ∈ WD := WD_mem (i := 1850) (by decide +kernel) rfl
theorem weX12_ways : Cond.selects (yX12_ways).cls yX12_ways yX12_ways ∈ WD := WD_mem (i := 1851) (by decide +kernel) rfl
theorem ykX11_over : yok yX11_over 1 := by unfold yok; decide +kernel
theorem wcX11_over : Cond.code yX11_over cX11_over 2 (some .int) ∈ WD := WD_mem (i := 1044) rfl rfl
theorem wiX11_over : Cond.initialized (yX11_over).cls ∈ WD := WD_mem (i := 119) (by decide +kernel) rfl
theorem wnX11_over : Cond.instanceMethod yX11_over ∈ WD := WD_mem (i := 1042) (by decide +kernel) rfl
theorem weX11_over : Cond.selects (yX11_over).cls yX11_over yX11_over ∈ WD := WD_mem (i := 1043) (by decide +kernel) rfl
theorem ykX12_over : yok yX12_over 1 := by unfold yok; decide +kernel
theorem wcX12_over : Cond.code yX12_over cX12_over 3 (some .int) ∈ WD := WD_mem (i := 1860) rfl rfl
theorem wiX12_over : Cond.initialized (yX12_over).cls ∈ WD := WD_mem (i := 131) (by decide +kernel) rfl
theorem wnX12_over : Cond.instanceMethod yX12_over ∈ WD := WD_mem (i := 1858) (by decide +kernel) rfl
theorem weX12_over : Cond.selects (yX12_over).cls yX12_over yX12_over ∈ WD := WD_mem (i := 1859) (by decide +kernel) rfl
theorem ykX11_cover : yok yX11_cover 0 := by unfold yok; decide +kernel
theorem wcX11_cover : Cond.code yX11_cover cX11_cover 1 (some .int) ∈ WD := WD_mem (i := 1052) rfl rfl
theorem wiX11_cover : Cond.initialized (yX11_cover).cls ∈ WD := WD_mem (i := 119) (by decide +kernel) rfl
theorem wnX11_cover : Cond.instanceMethod yX11_cover ∈ WD := WD_mem (i := 1050) (by decide +kernel) rfl
theorem weX11_cover : Cond.selects (yX11_cover).cls yX11_cover yX11_cover ∈ WD := WD_mem (i := 1051) (by decide +kernel) rfl
theorem ykX12_cover : yok yX12_cover 0 := by unfold yok; decide +kernel
theorem wcX12_cover : Cond.code yX12_cover cX12_cover 1 (some .int) ∈ WD := WD_mem (i := 1864) rfl rfl
theorem wiX12_cover : Cond.initialized (yX12_cover).cls ∈ WD := WD_mem (i := 131) (by decide +kernel) rfl
theorem wnX12_cover : Cond.instanceMethod yX12_cover ∈ WD := WD_mem (i := 1862) (by decide +kernel) rfl
theorem weX12_cover : Cond.selects (yX12_cover).cls yX12_cover yX12_cover ∈ WD := WD_mem (i := 1863) (by decide +kernel) rfl
theorem ykX11_both : yok yX11_both 2 := by unfold yok; decide +kernel
theorem wcX11_both : Cond.code yX11_both cX11_both 3 (some .int) ∈ WD := WD_mem (i := 1062) rfl rfl
theorem wiX11_both : Cond.initialized (yX11_both).cls ∈ WD := WD_mem (i := 119) (by decide +kernel) rfl
theorem wnX11_both : Cond.instanceMethod yX11_both ∈ WD := WD_mem (i := 1060) (by decide +kernel) rfl
theorem weX11_both : Cond.selects (yX11_both).cls yX11_both yX11_both ∈ WD := WD_mem (i := 1061) (by decide +kernel) rfl
theorem ykX12_both : yok yX12_both 2 := by unfold yok; decide +kernel
theorem wcX12_both : Cond.code yX12_both cX12_both 3 (some .int) ∈ WD := WD_mem (i := 1868) rfl rfl
theorem wiX12_both : Cond.initialized (yX12_both).cls ∈ WD := WD_mem (i := 131) (by decide +kernel) rfl
theorem wnX12_both : Cond.instanceMethod yX12_both ∈ WD := WD_mem (i := 1866) (by decide +kernel) rfl
theorem weX12_both : Cond.selects (yX12_both).cls yX12_both yX12_both ∈ WD := WD_mem (i := 1867) (by decide +kernel) rfl
theorem ykX11_shrink : yok yX11_shrink 1 := by unfold yok; decide +kernel
theorem wcX11_shrink : Cond.code yX11_shrink cX11_shrink 2 (some .int) ∈ WD := WD_mem (i := 1066) rfl rfl
theorem wiX11_shrink : Cond.initialized (yX11_shrink).cls ∈ WD := WD_mem (i := 119) (by decide +kernel) rfl
theorem wnX11_shrink : Cond.instanceMethod yX11_shrink ∈ WD := WD_mem (i := 1064) (by decide +kernel) rfl
theorem weX11_shrink : Cond.selects (yX11_shrink).cls yX11_shrink yX11_shrink ∈ WD := WD_mem (i := 1065) (by decide +kernel) rfl
theorem ykX12_shrink : yok yX12_shrink 1 := by unfold yok; decide +kernel
theorem wcX12_shrink : Cond.code yX12_shrink cX12_shrink 2 (some .int) ∈ WD := WD_mem (i := 1872) rfl rfl
theorem wiX12_shrink : Cond.initialized (yX12_shrink).cls ∈ WD := WD_mem (i := 131) (by decide +kernel) rfl
theorem wnX12_shrink : Cond.instanceMethod yX12_shrink ∈ WD := WD_mem (i := 1870) (by decide +kernel) rfl
theorem weX12_shrink : Cond.selects (yX12_shrink).cls yX12_shrink yX12_shrink ∈ WD := WD_mem (i := 1871) (by decide +kernel) rfl
theorem ykX11_stuck : yok yX11_stuck 0 := by unfold yok; decide +kernel
theorem wcX11_stuck : Cond.code yX11_stuck cX11_stuck 1 (some .boolean) ∈ WD := WD_mem (i := 1077) rfl rfl
theorem wiX11_stuck : Cond.initialized (yX11_stuck).cls ∈ WD := WD_mem (i := 119) (by decide +kernel) rfl
theorem wnX11_stuck : Cond.instanceMethod yX11_stuck ∈ WD := WD_mem (i := 1075) (by decide +kernel) rfl
theorem weX11_stuck : Cond.selects (yX11_stuck).cls yX11_stuck yX11_stuck ∈ WD := WD_mem (i := 1076) (by decide +kernel) rfl
theorem ykX12_stuck : yok yX12_stuck 0 := by unfold yok; decide +kernel
theorem wcX12_stuck : Cond.code yX12_stuck cX12_stuck 1 (some .boolean) ∈ WD := WD_mem (i := 1876) rfl rfl
theorem wiX12_stuck : Cond.initialized (yX12_stuck).cls ∈ WD := WD_mem (i := 131) (by decide +kernel) rfl
theorem wnX12_stuck : Cond.instanceMethod yX12_stuck ∈ WD := WD_mem (i := 1874) (by decide +kernel) rfl
theorem weX12_stuck : Cond.selects (yX12_stuck).cls yX12_stuck yX12_stuck ∈ WD := WD_mem (i := 1875) (by decide +kernel) rfl
theorem ykX11_longest : yok yX11_longest 0 := by unfold yok; decide +kernel
theorem wcX11_longest : Cond.code yX11_longest cX11_longest 1 (some .int) ∈ WD := WD_mem (i := 1085) rfl rfl
theorem wiX11_longest : Cond.initialized (yX11_longest).cls ∈ WD := WD_mem (i := 119) (by decide +kernel) rfl
theorem wnX11_longest : Cond.instanceMethod yX11_longest ∈ WD := WD_mem (i := 1083) (by decide +kernel) rfl
theorem weX11_longest : Cond.selects (yX11_longest).cls yX11_longest yX11_longest ∈ WD := WD_mem (i := 1084) (by decide +kernel) rfl
theorem ykX12_longest : yok yX12_longest 0 := by unfold yok; decide +kernel
theorem wcX12_longest : Cond.code yX12_longest cX12_longest 1 (some .int) ∈ WD := WD_mem (i := 1880) rfl rfl
theorem wiX12_longest : Cond.initialized (yX12_longest).cls ∈ WD := WD_mem (i := 131) (by decide +kernel) rfl
theorem wnX12_longest : Cond.instanceMethod yX12_longest ∈ WD := WD_mem (i := 1878) (by decide +kernel) rfl
theorem weX12_longest : Cond.selects (yX12_longest).cls yX12_longest yX12_longest ∈ WD := WD_mem (i := 1879) (by decide +kernel) rfl
theorem ykX11_ends : yok yX11_ends 0 := by unfold yok; decide +kernel
theorem wcX11_ends : Cond.code yX11_ends cX11_ends 1 (some .int) ∈ WD := WD_mem (i := 1093) rfl rfl
theorem wiX11_ends : Cond.initialized (yX11_ends).cls ∈ WD := WD_mem (i := 119) (by decide +kernel) rfl
theorem wnX11_ends : Cond.instanceMethod yX11_ends ∈ WD := WD_mem (i := 1091) (by decide +kernel) rfl
theorem weX11_ends : Cond.selects (yX11_ends).cls yX11_ends yX11_ends ∈ WD := WD_mem (i := 1092) (by decide +kernel) rfl
theorem ykX12_ends : yok yX12_ends 0 := by unfold yok; decide +kernel
theorem wcX12_ends : Cond.code yX12_ends cX12_ends 4 (some .int) ∈ WD := WD_mem (i := 1884) rfl rfl
theorem wiX12_ends : Cond.initialized (yX12_ends).cls ∈ WD := WD_mem (i := 131) (by decide +kernel) rfl
theorem wnX12_ends : Cond.instanceMethod yX12_ends ∈ WD := WD_mem (i := 1882) (by decide +kernel) rfl
theorem weX12_ends : Cond.selects (yX12_ends).cls yX12_ends yX12_ends ∈ WD := WD_mem (i := 1883) (by decide +kernel) rfl
theorem ykX11_alone : yok yX11_alone 2 := by unfold yok; decide +kernel
theorem wcX11_alone : Cond.code yX11_alone cX11_alone 3 (some .int) ∈ WD := WD_mem (i := 1101) rfl rfl
theorem wiX11_alone : Cond.initialized (yX11_alone).cls ∈ WD := WD_mem (i := 119) (by decide +kernel) rfl
theorem wnX11_alone : Cond.instanceMethod yX11_alone ∈ WD := WD_mem (i := 1099) (by decide +kernel) rfl
theorem weX11_alone : Cond.selects (yX11_alone).cls yX11_alone yX11_alone ∈ WD := WD_mem (i := 1100) (by decide +kernel) rfl
theorem ykX12_alone : yok yX12_alone 2 := by unfold yok; decide +kernel
theorem wcX12_alone : Cond.code yX12_alone cX12_alone 3 (some .int) ∈ WD := WD_mem (i := 1892) rfl rfl
theorem wiX12_alone : Cond.initialized (yX12_alone).cls ∈ WD := WD_mem (i := 131) (by decide +kernel) rfl
theorem wnX12_alone : Cond.instanceMethod yX12_alone ∈ WD := WD_mem (i := 1890) (by decide +kernel) rfl
theorem weX12_alone : Cond.selects (yX12_alone).cls yX12_alone yX12_alone ∈ WD := WD_mem (i := 1891) (by decide +kernel) rfl
theorem ykX11_needed : yok yX11_needed 1 := by unfold yok; decide +kernel
theorem wcX11_needed : Cond.code yX11_needed cX11_needed 5 (some .int) ∈ WD := WD_mem (i := 1109) rfl rfl
theorem wiX11_needed : Cond.initialized (yX11_needed).cls ∈ WD := WD_mem (i := 119) (by decide +kernel) rfl
theorem wnX11_needed : Cond.instanceMethod yX11_needed ∈ WD := WD_mem (i := 1107) (by decide +kernel) rfl
theorem weX11_needed : Cond.selects (yX11_needed).cls yX11_needed yX11_needed ∈ WD := WD_mem (i := 1108) (by decide +kernel) rfl
theorem ykX12_needed : yok yX12_needed 1 := by unfold yok; decide +kernel
theorem wcX12_needed : Cond.code yX12_needed cX12_needed 4 (some .int) ∈ WD := WD_mem (i := 1900) rfl rfl
theorem wiX12_needed : Cond.initialized (yX12_needed).cls ∈ WD := WD_mem (i := 131) (by decide +kernel) rfl
theorem wnX12_needed : Cond.instanceMethod yX12_needed ∈ WD := WD_mem (i := 1898) (by decide +kernel) rfl
theorem weX12_needed : Cond.selects (yX12_needed).cls yX12_needed yX12_needed ∈ WD := WD_mem (i := 1899) (by decide +kernel) rfl
theorem ykX11_brings : yok yX11_brings 1 := by unfold yok; decide +kernel
theorem wcX11_brings : Cond.code yX11_brings cX11_brings 2 (some .int) ∈ WD := WD_mem (i := 1117) rfl rfl
theorem wiX11_brings : Cond.initialized (yX11_brings).cls ∈ WD := WD_mem (i := 119) (by decide +kernel) rfl
theorem wnX11_brings : Cond.instanceMethod yX11_brings ∈ WD := WD_mem (i := 1115) (by decide +kernel) rfl
theorem weX11_brings : Cond.selects (yX11_brings).cls yX11_brings yX11_brings ∈ WD := WD_mem (i := 1116) (by decide +kernel) rfl
theorem ykX12_brings : yok yX12_brings 1 := by unfold yok; decide +kernel
theorem wcX12_brings : Cond.code yX12_brings cX12_brings 2 (some .int) ∈ WD := WD_mem (i := 1908) rfl rfl
theorem wiX12_brings : Cond.initialized (yX12_brings).cls ∈ WD := WD_mem (i := 131) (by decide +kernel) rfl
theorem wnX12_brings : Cond.instanceMethod yX12_brings ∈ WD := WD_mem (i := 1906) (by decide +kernel) rfl
theorem weX12_brings : Cond.selects (yX12_brings).cls yX12_brings yX12_brings ∈ WD := WD_mem (i := 1907) (by decide +kernel) rfl
theorem ykX11_lack : yok yX11_lack 2 := by unfold yok; decide +kernel
theorem wcX11_lack : Cond.code yX11_lack cX11_lack 4 (some .int) ∈ WD := WD_mem (i := 1129) rfl rfl
theorem wiX11_lack : Cond.initialized (yX11_lack).cls ∈ WD := WD_mem (i := 119) (by decide +kernel) rfl
theorem wnX11_lack : Cond.instanceMethod yX11_lack ∈ WD := WD_mem (i := 1127) (by decide +kernel) rfl
theorem weX11_lack : Cond.selects (yX11_lack).cls yX11_lack yX11_lack ∈ WD := WD_mem (i := 1128) (by decide +kernel) rfl
theorem ykX12_lack : yok yX12_lack 2 := by unfold yok; decide +kernel
theorem wcX12_lack : Cond.code yX12_lack cX12_lack 4 (some .int) ∈ WD := WD_mem (i := 1944) rfl rfl
theorem wiX12_lack : Cond.initialized (yX12_lack).cls ∈ WD := WD_mem (i := 131) (by decide +kernel) rfl
theorem wnX12_lack : Cond.instanceMethod yX12_lack ∈ WD := WD_mem (i := 1942) (by decide +kernel) rfl
theorem weX12_lack : Cond.selects (yX12_lack).cls yX12_lack yX12_lack ∈ WD := WD_mem (i := 1943) (by decide +kernel) rfl
theorem ykX11_guard : yok yX11_guard 2 := by unfold yok; decide +kernel
theorem wcX11_guard : Cond.code yX11_guard cX11_guard 4 (some .int) ∈ WD := WD_mem (i := 1139) rfl rfl
theorem wiX11_guard : Cond.initialized (yX11_guard).cls ∈ WD := WD_mem (i := 119) (by decide +kernel) rfl
theorem wnX11_guard : Cond.instanceMethod yX11_guard ∈ WD := WD_mem (i := 1137) (by decide +kernel) rfl
theorem weX11_guard : Cond.selects (yX11_guard).cls yX11_guard yX11_guard ∈ WD := WD_mem (i := 1138) (by decide +kernel) rfl
theorem ykX12_guard : yok yX12_guard 2 := by unfold yok; decide +kernel
theorem wcX12_guard : Cond.code yX12_guard cX12_guard 4 (some .int) ∈ WD := WD_mem (i := 1952) rfl rfl
theorem wiX12_guard : Cond.initialized (yX12_guard).cls ∈ WD := WD_mem (i := 131) (by decide +kernel) rfl
theorem wnX12_guard : Cond.instanceMethod yX12_guard ∈ WD := WD_mem (i := 1950) (by decide +kernel) rfl
theorem weX12_guard : Cond.selects (yX12_guard).cls yX12_guard yX12_guard ∈ WD := WD_mem (i := 1951) (by decide +kernel) rfl
theorem ykX11_before : yok yX11_before 0 := by unfold yok; decide +kernel
theorem wcX11_before : Cond.code yX11_before cX11_before 1 (some .int) ∈ WD := WD_mem (i := 1161) rfl rfl
theorem wiX11_before : Cond.initialized (yX11_before).cls ∈ WD := WD_mem (i := 119) (by decide +kernel) rfl
theorem wnX11_before : Cond.instanceMethod yX11_before ∈ WD := WD_mem (i := 1159) (by decide +kernel) rfl
theorem weX11_before : Cond.selects (yX11_before).cls yX11_before yX11_before ∈ WD := WD_mem (i := 1160) (by decide +kernel) rfl
theorem ykX12_before : yok yX12_before 0 := by unfold yok; decide +kernel
theorem wcX12_before : Cond.code yX12_before cX12_before 1 (some .int) ∈ WD := WD_mem (i := 1932) rfl rfl
theorem wiX12_before : Cond.initialized (yX12_before).cls ∈ WD := WD_mem (i := 131) (by decide +kernel) rfl
theorem wnX12_before : Cond.instanceMethod yX12_before ∈ WD := WD_mem (i := 1930) (by decide +kernel) rfl
theorem weX12_before : Cond.selects (yX12_before).cls yX12_before yX12_before ∈ WD := WD_mem (i := 1931) (by decide +kernel) rfl
theorem ykX11_reach : yok yX11_reach 1 := by unfold yok; decide +kernel
theorem wcX11_reach : Cond.code yX11_reach cX11_reach 2 (some .int) ∈ WD := WD_mem (i := 1170) rfl rfl
theorem wiX11_reach : Cond.initialized (yX11_reach).cls ∈ WD := WD_mem (i := 119) (by decide +kernel) rfl
theorem wnX11_reach : Cond.instanceMethod yX11_reach ∈ WD := WD_mem (i := 1168) (by decide +kernel) rfl
theorem weX11_reach : Cond.selects (yX11_reach).cls yX11_reach yX11_reach ∈ WD := WD_mem (i := 1169) (by decide +kernel) rfl
theorem ykX12_reach : yok yX12_reach 1 := by unfold yok; decide +kernel
theorem wcX12_reach : Cond.code yX12_reach cX12_reach 2 (some .int) ∈ WD := WD_mem (i := 1912) rfl rfl
theorem wiX12_reach : Cond.initialized (yX12_reach).cls ∈ WD := WD_mem (i := 131) (by decide +kernel) rfl
theorem wnX12_reach : Cond.instanceMethod yX12_reach ∈ WD := WD_mem (i := 1910) (by decide +kernel) rfl
theorem weX12_reach : Cond.selects (yX12_reach).cls yX12_reach yX12_reach ∈ WD := WD_mem (i := 1911) (by decide +kernel) rfl
theorem ykX11_far : yok yX11_far 2 := by unfold yok; decide +kernel
theorem wcX11_far : Cond.code yX11_far cX11_far 3 (some .int) ∈ WD := WD_mem (i := 1183) rfl rfl
theorem wiX11_far : Cond.initialized (yX11_far).cls ∈ WD := WD_mem (i := 119) (by decide +kernel) rfl
theorem wnX11_far : Cond.instanceMethod yX11_far ∈ WD := WD_mem (i := 1181) (by decide +kernel) rfl
theorem weX11_far : Cond.selects (yX11_far).cls yX11_far yX11_far ∈ WD := WD_mem (i := 1182) (by decide +kernel) rfl
theorem ykX12_far : yok yX12_far 2 := by unfold yok; decide +kernel
theorem wcX12_far : Cond.code yX12_far cX12_far 7 (some .int) ∈ WD := WD_mem (i := 1920) rfl rfl
theorem wiX12_far : Cond.initialized (yX12_far).cls ∈ WD := WD_mem (i := 131) (by decide +kernel) rfl
theorem wnX12_far : Cond.instanceMethod yX12_far ∈ WD := WD_mem (i := 1918) (by decide +kernel) rfl
theorem weX12_far : Cond.selects (yX12_far).cls yX12_far yX12_far ∈ WD := WD_mem (i := 1919) (by decide +kernel) rfl
theorem ykX11_rich : yok yX11_rich 0 := by unfold yok; decide +kernel
theorem wcX11_rich : Cond.code yX11_rich cX11_rich 4 (some .int) ∈ WD := WD_mem (i := 1191) rfl rfl
theorem wiX11_rich : Cond.initialized (yX11_rich).cls ∈ WD := WD_mem (i := 119) (by decide +kernel) rfl
theorem wnX11_rich : Cond.instanceMethod yX11_rich ∈ WD := WD_mem (i := 1189) (by decide +kernel) rfl
theorem weX11_rich : Cond.selects (yX11_rich).cls yX11_rich yX11_rich ∈ WD := WD_mem (i := 1190) (by decide +kernel) rfl
theorem ykX12_rich : yok yX12_rich 0 := by unfold yok; decide +kernel
theorem wcX12_rich : Cond.code yX12_rich cX12_rich 3 (some .int) ∈ WD := WD_mem (i := 1924) rfl rfl
theorem wiX12_rich : Cond.initialized (yX12_rich).cls ∈ WD := WD_mem (i := 131) (by decide +kernel) rfl
theorem wnX12_rich : Cond.instanceMethod yX12_rich ∈ WD := WD_mem (i := 1922) (by decide +kernel) rfl
theorem weX12_rich : Cond.selects (yX12_rich).cls yX12_rich yX12_rich ∈ WD := WD_mem (i := 1923) (by decide +kernel) rfl
theorem ykX11_cheap : yok yX11_cheap 2 := by unfold yok; decide +kernel
theorem wcX11_cheap : Cond.code yX11_cheap cX11_cheap 3 (some .int) ∈ WD := WD_mem (i := 1195) rfl rfl
theorem wiX11_cheap : Cond.initialized (yX11_cheap).cls ∈ WD := WD_mem (i := 119) (by decide +kernel) rfl
theorem wnX11_cheap : Cond.instanceMethod yX11_cheap ∈ WD := WD_mem (i := 1193) (by decide +kernel) rfl
theorem weX11_cheap : Cond.selects (yX11_cheap).cls yX11_cheap yX11_cheap ∈ WD := WD_mem (i := 1194) (by decide +kernel) rfl
theorem ykX12_cheap : yok yX12_cheap 2 := by unfold yok; decide +kernel
theorem wcX12_cheap : Cond.code yX12_cheap cX12_cheap 7 (some .int) ∈ WD := WD_mem (i := 1928) rfl rfl
theorem wiX12_cheap : Cond.initialized (yX12_cheap).cls ∈ WD := WD_mem (i := 131) (by decide +kernel) rfl
theorem wnX12_cheap : Cond.instanceMethod yX12_cheap ∈ WD := WD_mem (i := 1926) (by decide +kernel) rfl
theorem weX12_cheap : Cond.selects (yX12_cheap).cls yX12_cheap yX12_cheap ∈ WD := WD_mem (i := 1927) (by decide +kernel) rfl
theorem ykX11_layings : yok yX11_layings 1 := by unfold yok; decide +kernel
theorem wcX11_layings : Cond.code yX11_layings cX11_layings 2 (some .int) ∈ WD := WD_mem (i := 1210) rfl rfl
theorem wiX11_layings : Cond.initialized (yX11_layings).cls ∈ WD := WD_mem (i := 119) (by decide +kernel) rfl
theorem wnX11_layings : Cond.instanceMethod yX11_layings ∈ WD := WD_mem (i := 1208) (by decide +kernel) rfl
theorem weX11_layings : Cond.selects (yX11_layings).cls yX11_layings yX11_layings ∈ WD := WD_mem (i := 1209) (by decide +kernel) rfl
theorem ykX12_layings : yok yX12_layings 1 := by unfold yok; decide +kernel
theorem wcX12_layings : Cond.code yX12_layings cX12_layings 2 (some .int) ∈ WD := WD_mem (i := 1960) rfl rfl
theorem wiX12_layings : Cond.initialized (yX12_layings).cls ∈ WD := WD_mem (i := 131) (by decide +kernel) rfl
theorem wnX12_layings : Cond.instanceMethod yX12_layings ∈ WD := WD_mem (i := 1958) (by decide +kernel) rfl
theorem weX12_layings : Cond.selects (yX12_layings).cls yX12_layings yX12_layings ∈ WD := WD_mem (i := 1959) (by decide +kernel) rfl
theorem ykX11_comes : yok yX11_comes 2 := by unfold yok; decide +kernel
theorem wcX11_comes : Cond.code yX11_comes cX11_comes 3 (some .int) ∈ WD := WD_mem (i := 1219) rfl rfl
theorem wiX11_comes : Cond.initialized (yX11_comes).cls ∈ WD := WD_mem (i := 119) (by decide +kernel) rfl
theorem wnX11_comes : Cond.instanceMethod yX11_comes ∈ WD := WD_mem (i := 1217) (by decide +kernel) rfl
theorem weX11_comes : Cond.selects (yX11_comes).cls yX11_comes yX11_comes ∈ WD := WD_mem (i := 1218) (by decide +kernel) rfl
theorem ykX12_comes : yok yX12_comes 2 := by unfold yok; decide +kernel
theorem wcX12_comes : Cond.code yX12_comes cX12_comes 3 (some .int) ∈ WD := WD_mem (i := 1968) rfl rfl
theorem wiX12_comes : Cond.initialized (yX12_comes).cls ∈ WD := WD_mem (i := 131) (by decide +kernel) rfl
theorem wnX12_comes : Cond.instanceMethod yX12_comes ∈ WD := WD_mem (i := 1966) (by decide +kernel) rfl
theorem weX12_comes : Cond.selects (yX12_comes).cls yX12_comes yX12_comes ∈ WD := WD_mem (i := 1967) (by decide +kernel) rfl
theorem ykX11_eden : yok yX11_eden 1 := by unfold yok; decide +kernel
theorem wcX11_eden : Cond.code yX11_eden cX11_eden 2 (some .int) ∈ WD := WD_mem (i := 1227) rfl rfl
theorem wiX11_eden : Cond.initialized (yX11_eden).cls ∈ WD := WD_mem (i := 119) (by decide +kernel) rfl
theorem wnX11_eden : Cond.instanceMethod yX11_eden ∈ WD := WD_mem (i := 1225) (by decide +kernel) rfl
theorem weX11_eden : Cond.selects (yX11_eden).cls yX11_eden yX11_eden ∈ WD := WD_mem (i := 1226) (by decide +kernel) rfl
theorem ykX12_eden : yok yX12_eden 1 := by unfold yok; decide +kernel
theorem wcX12_eden : Cond.code yX12_eden cX12_eden 4 (some .int) ∈ WD := WD_mem (i := 1972) rfl rfl
theorem wiX12_eden : Cond.initialized (yX12_eden).cls ∈ WD := WD_mem (i := 131) (by decide +kernel) rfl
theorem wnX12_eden : Cond.instanceMethod yX12_eden ∈ WD := WD_mem (i := 1970) (by decide +kernel) rfl
theorem weX12_eden : Cond.selects (yX12_eden).cls yX12_eden yX12_eden ∈ WD := WD_mem (i := 1971) (by decide +kernel) rfl
theorem ykX11_sure : yok yX11_sure 1 := by unfold yok; decide +kernel
theorem wcX11_sure : Cond.code yX11_sure cX11_sure 2 (some .int) ∈ WD := WD_mem (i := 1236) rfl rfl
theorem wiX11_sure : Cond.initialized (yX11_sure).cls ∈ WD := WD_mem (i := 119) (by decide +kernel) rfl
theorem wnX11_sure : Cond.instanceMethod yX11_sure ∈ WD := WD_mem (i := 1234) (by decide +kernel) rfl
theorem weX11_sure : Cond.selects (yX11_sure).cls yX11_sure yX11_sure ∈ WD := WD_mem (i := 1235) (by decide +kernel) rfl
theorem ykX12_sure : yok yX12_sure 1 := by unfold yok; decide +kernel
theorem wcX12_sure : Cond.code yX12_sure cX12_sure 2 (some .int) ∈ WD := WD_mem (i := 1976) rfl rfl
theorem wiX12_sure : Cond.initialized (yX12_sure).cls ∈ WD := WD_mem (i := 131) (by decide +kernel) rfl
theorem wnX12_sure : Cond.instanceMethod yX12_sure ∈ WD := WD_mem (i := 1974) (by decide +kernel) rfl
theorem weX12_sure : Cond.selects (yX12_sure).cls yX12_sure yX12_sure ∈ WD := WD_mem (i := 1975) (by decide +kernel) rfl
theorem ykX11_always : yok yX11_always 0 := by unfold yok; decide +kernel
theorem wcX11_always : Cond.code yX11_always cX11_always 1 (some .int) ∈ WD := WD_mem (i := 1248) rfl rfl
theorem wiX11_always : Cond.initialized (yX11_always).cls ∈ WD := WD_mem (i := 119) (by decide +kernel) rfl
theorem wnX11_always : Cond.instanceMethod yX11_always ∈ WD := WD_mem (i := 1246) (by decide +kernel) rfl
theorem weX11_always : Cond.selects (yX11_always).cls yX11_always yX11_always ∈ WD := WD_mem (i := 1247) (by decide +kernel) rfl
theorem ykX12_always : yok yX12_always 0 := by unfold yok; decide +kernel
theorem wcX12_always : Cond.code yX12_always cX12_always 1 (some .int) ∈ WD := WD_mem (i := 1984) rfl rfl
theorem wiX12_always : Cond.initialized (yX12_always).cls ∈ WD := WD_mem (i := 131) (by decide +kernel) rfl
theorem wnX12_always : Cond.instanceMethod yX12_always ∈ WD := WD_mem (i := 1982) (by decide +kernel) rfl
theorem weX12_always : Cond.selects (yX12_always).cls yX12_always yX12_always ∈ WD := WD_mem (i := 1983) (by decide +kernel) rfl
theorem ykX11_worst : yok yX11_worst 3 := by unfold yok; decide +kernel
theorem wcX11_worst : Cond.code yX11_worst cX11_worst 5 (some .int) ∈ WD := WD_mem (i := 1252) rfl rfl
theorem wiX11_worst : Cond.initialized (yX11_worst).cls ∈ WD := WD_mem (i := 119) (by decide +kernel) rfl
theorem wnX11_worst : Cond.instanceMethod yX11_worst ∈ WD := WD_mem (i := 1250) (by decide +kernel) rfl
theorem weX11_worst : Cond.selects (yX11_worst).cls yX11_worst yX11_worst ∈ WD := WD_mem (i := 1251) (by decide +kernel) rfl
theorem ykX12_worst : yok yX12_worst 3 := by unfold yok; decide +kernel
theorem wcX12_worst : Cond.code yX12_worst cX12_worst 5 (some .int) ∈ WD := WD_mem (i := 1988) rfl rfl
theorem wiX12_worst : Cond.initialized (yX12_worst).cls ∈ WD := WD_mem (i := 131) (by decide +kernel) rfl
theorem wnX12_worst : Cond.instanceMethod yX12_worst ∈ WD := WD_mem (i := 1986) (by decide +kernel) rfl
theorem weX12_worst : Cond.selects (yX12_worst).cls yX12_worst yX12_worst ∈ WD := WD_mem (i := 1987) (by decide +kernel) rfl
theorem ykX11_best : yok yX11_best 1 := by unfold yok; decide +kernel
theorem wcX11_best : Cond.code yX11_best cX11_best 3 (some .int) ∈ WD := WD_mem (i := 1260) rfl rfl
theorem wiX11_best : Cond.initialized (yX11_best).cls ∈ WD := WD_mem (i := 119) (by decide +kernel) rfl
theorem wnX11_best : Cond.instanceMethod yX11_best ∈ WD := WD_mem (i := 1258) (by decide +kernel) rfl
theorem weX11_best : Cond.selects (yX11_best).cls yX11_best yX11_best ∈ WD := WD_mem (i := 1259) (by decide +kernel) rfl
theorem ykX12_best : yok yX12_best 1 := by unfold yok; decide +kernel
theorem wcX12_best : Cond.code yX12_best cX12_best 4 (some .int) ∈ WD := WD_mem (i := 1992) rfl rfl
theorem wiX12_best : Cond.initialized (yX12_best).cls ∈ WD := WD_mem (i := 131) (by decide +kernel) rfl
theorem wnX12_best : Cond.instanceMethod yX12_best ∈ WD := WD_mem (i := 1990) (by decide +kernel) rfl
theorem weX12_best : Cond.selects (yX12_best).cls yX12_best yX12_best ∈ WD := WD_mem (i := 1991) (by decide +kernel) rfl
theorem ykX11_wins : yok yX11_wins 1 := by unfold yok; decide +kernel
theorem wcX11_wins : Cond.code yX11_wins cX11_wins 3 (some .int) ∈ WD := WD_mem (i := 1269) rfl rfl
theorem wiX11_wins : Cond.initialized (yX11_wins).cls ∈ WD := WD_mem (i := 119) (by decide +kernel) rfl
theorem wnX11_wins : Cond.instanceMethod yX11_wins ∈ WD := WD_mem (i := 1267) (by decide +kernel) rfl
theorem weX11_wins : Cond.selects (yX11_wins).cls yX11_wins yX11_wins ∈ WD := WD_mem (i := 1268) (by decide +kernel) rfl
theorem ykX12_wins : yok yX12_wins 1 := by unfold yok; decide +kernel
theorem wcX12_wins : Cond.code yX12_wins cX12_wins 4 (some .int) ∈ WD := WD_mem (i := 1996) rfl rfl
theorem wiX12_wins : Cond.initialized (yX12_wins).cls ∈ WD := WD_mem (i := 131) (by decide +kernel) rfl
theorem wnX12_wins : Cond.instanceMethod yX12_wins ∈ WD := WD_mem (i := 1994) (by decide +kernel) rfl
theorem weX12_wins : Cond.selects (yX12_wins).cls yX12_wins yX12_wins ∈ WD := WD_mem (i := 1995) (by decide +kernel) rfl
theorem ykX11_his : yok yX11_his 0 := by unfold yok; decide +kernel
theorem wcX11_his : Cond.code yX11_his cX11_his 2 (some .int) ∈ WD := WD_mem (i := 1277) rfl rfl
theorem wiX11_his : Cond.initialized (yX11_his).cls ∈ WD := WD_mem (i := 119) (by decide +kernel) rfl
theorem wnX11_his : Cond.instanceMethod yX11_his ∈ WD := WD_mem (i := 1275) (by decide +kernel) rfl
theorem weX11_his : Cond.selects (yX11_his).cls yX11_his yX11_his ∈ WD := WD_mem (i := 1276) (by decide +kernel) rfl
theorem ykX12_his : yok yX12_his 0 := by unfold yok; decide +kernel
theorem wcX12_his : Cond.code yX12_his cX12_his 8 (some .int) ∈ WD := WD_mem (i := 2000) rfl rfl
theorem wiX12_his : Cond.initialized (yX12_his).cls ∈ WD := WD_mem (i := 131) (by decide +kernel) rfl
theorem wnX12_his : Cond.instanceMethod yX12_his ∈ WD := WD_mem (i := 1998) (by decide +kernel) rfl
theorem weX12_his : Cond.selects (yX12_his).cls yX12_his yX12_his ∈ WD := WD_mem (i := 1999) (by decide +kernel) rfl
theorem ykX11_see : yok yX11_see 3 := by unfold yok; decide +kernel
theorem wcX11_see : Cond.code yX11_see cX11_see 4 (some .boolean) ∈ WD := WD_mem (i := 1286) rfl rfl
theorem wiX11_see : Cond.initialized (yX11_see).cls ∈ WD := WD_mem (i := 119) (by decide +kernel) rfl
theorem wnX11_see : Cond.instanceMethod yX11_see ∈ WD := WD_mem (i := 1284) (by decide +kernel) rfl
theorem weX11_see : Cond.selects (yX11_see).cls yX11_see yX11_see ∈ WD := WD_mem (i := 1285) (by decide +kernel) rfl
theorem ykX12_see : yok yX12_see 3 := by unfold yok; decide +kernel
theorem wcX12_see : Cond.code yX12_see cX12_see 5 (some .boolean) ∈ WD := WD_mem (i := 2005) rfl rfl
theorem wiX12_see : Cond.initialized (yX12_see).cls ∈ WD := WD_mem (i := 131) (by decide +kernel) rfl
theorem wnX12_see : Cond.instanceMethod yX12_see ∈ WD := WD_mem (i := 2003) (by decide +kernel) rfl
theorem weX12_see : Cond.selects (yX12_see).cls yX12_see yX12_see ∈ WD := WD_mem (i := 2004) (by decide +kernel) rfl
theorem ykX11_fit : yok yX11_fit 0 := by unfold yok; decide +kernel
theorem wcX11_fit : Cond.code yX11_fit cX11_fit 1 (some .int) ∈ WD := WD_mem (i := 1294) rfl rfl
theorem wiX11_fit : Cond.initialized (yX11_fit).cls ∈ WD := WD_mem (i := 119) (by decide +kernel) rfl
theorem wnX11_fit : Cond.instanceMethod yX11_fit ∈ WD := WD_mem (i := 1292) (by decide +kernel) rfl
theorem weX11_fit : Cond.selects (yX11_fit).cls yX11_fit yX11_fit ∈ WD := WD_mem (i := 1293) (by decide +kernel) rfl
theorem ykX12_fit : yok yX12_fit 0 := by unfold yok; decide +kernel
theorem wcX12_fit : Cond.code yX12_fit cX12_fit 1 (some .int) ∈ WD := WD_mem (i := 2009) rfl rfl
theorem wiX12_fit : Cond.initialized (yX12_fit).cls ∈ WD := WD_mem (i := 131) (by decide +kernel) rfl
theorem wnX12_fit : Cond.instanceMethod yX12_fit ∈ WD := WD_mem (i := 2007) (by decide +kernel) rfl
theorem weX12_fit : Cond.selects (yX12_fit).cls yX12_fit yX12_fit ∈ WD := WD_mem (i := 2008) (by decide +kernel) rfl
theorem ykX11_look : yok yX11_look 0 := by unfold yok; decide +kernel
theorem wcX11_look : Cond.code yX11_look cX11_look 1 (some .int) ∈ WD := WD_mem (i := 1307) rfl rfl
theorem wiX11_look : Cond.initialized (yX11_look).cls ∈ WD := WD_mem (i := 119) (by decide +kernel) rfl
theorem wnX11_look : Cond.instanceMethod yX11_look ∈ WD := WD_mem (i := 1305) (by decide +kernel) rfl
theorem weX11_look : Cond.selects (yX11_look).cls yX11_look yX11_look ∈ WD := WD_mem (i := 1306) (by decide +kernel) rfl
theorem ykX12_look : yok yX12_look 0 := by unfold yok; decide +kernel
theorem wcX12_look : Cond.code yX12_look cX12_look 8 (some .int) ∈ WD := WD_mem (i := 2021) rfl rfl
theorem wiX12_look : Cond.initialized (yX12_look).cls ∈ WD := WD_mem (i := 131) (by decide +kernel) rfl
theorem wnX12_look : Cond.instanceMethod yX12_look ∈ WD := WD_mem (i := 2019) (by decide +kernel) rfl
theorem weX12_look : Cond.selects (yX12_look).cls yX12_look yX12_look ∈ WD := WD_mem (i := 2020) (by decide +kernel) rfl
theorem ykX11_chance : yok yX11_chance 2 := by unfold yok; decide +kernel
theorem wcX11_chance : Cond.code yX11_chance cX11_chance 3 (some .int) ∈ WD := WD_mem (i := 1322) rfl rfl
theorem wiX11_chance : Cond.initialized (yX11_chance).cls ∈ WD := WD_mem (i := 119) (by decide +kernel) rfl
theorem wnX11_chance : Cond.instanceMethod yX11_chance ∈ WD := WD_mem (i := 1320) (by decide +kernel) rfl
theorem weX11_chance : Cond.selects (yX11_chance).cls yX11_chance yX11_chance ∈ WD := WD_mem (i := 1321) (by decide +kernel) rfl
theorem ykX12_chance : yok yX12_chance 2 := by unfold yok; decide +kernel
theorem wcX12_chance : Cond.code yX12_chance cX12_chance 6 (some .int) ∈ WD := WD_mem (i := 2025) rfl rfl
theorem wiX12_chance : Cond.initialized (yX12_chance).cls ∈ WD := WD_mem (i := 131) (by decide +kernel) rfl
theorem wnX12_chance : Cond.instanceMethod yX12_chance ∈ WD := WD_mem (i := 2023) (by decide +kernel) rfl
theorem weX12_chance : Cond.selects (yX12_chance).cls yX12_chance yX12_chance ∈ WD := WD_mem (i := 2024) (by decide +kernel) rfl
theorem ykX11_seasons : yok yX11_seasons 3 := by unfold yok; decide +kernel
theorem wcX11_seasons : Cond.code yX11_seasons cX11_seasons 4 (some .int) ∈ WD := WD_mem (i := 1335) rfl rfl
theorem wiX11_seasons : Cond.initialized (yX11_seasons).cls ∈ WD := WD_mem (i := 119) (by decide +kernel) rfl
theorem wnX11_seasons : Cond.instanceMethod yX11_seasons ∈ WD := WD_mem (i := 1333) (by decide +kernel) rfl
theorem weX11_seasons : Cond.selects (yX11_seasons).cls yX11_seasons yX11_seasons ∈ WD := WD_mem (i := 1334) (by decide +kernel) rfl
theorem ykX12_seasons : yok yX12_seasons 3 := by unfold yok; decide +kernel
theorem wcX12_seasons : Cond.code yX12_seasons cX12_seasons 6 (some .int) ∈ WD := WD_mem (i := 2041) rfl rfl
theorem wiX12_seasons : Cond.initialized (yX12_seasons).cls ∈ WD := WD_mem (i := 131) (by decide +kernel) rfl
theorem wnX12_seasons : Cond.instanceMethod yX12_seasons ∈ WD := WD_mem (i := 2039) (by decide +kernel) rfl
theorem weX12_seasons : Cond.selects (yX12_seasons).cls yX12_seasons yX12_seasons ∈ WD := WD_mem (i := 2040) (by decide +kernel) rfl
theorem ykX11_mark : yok yX11_mark 2 := by unfold yok; decide +kernel
theorem wcX11_mark : Cond.code yX11_mark cX11_mark 3 (some .boolean) ∈ WD := WD_mem (i := 1357) rfl rfl
theorem wiX11_mark : Cond.initialized (yX11_mark).cls ∈ WD := WD_mem (i := 119) (by decide +kernel) rfl
theorem wnX11_mark : Cond.instanceMethod yX11_mark ∈ WD := WD_mem (i := 1355) (by decide +kernel) rfl
theorem weX11_mark : Cond.selects (yX11_mark).cls yX11_mark yX11_mark ∈ WD := WD_mem (i := 1356) (by decide +kernel) rfl
theorem ykX12_mark : yok yX12_mark 2 := by unfold yok; decide +kernel
theorem wcX12_mark : Cond.code yX12_mark cX12_mark 3 (some .boolean) ∈ WD := WD_mem (i := 2057) rfl rfl
theorem wiX12_mark : Cond.initialized (yX12_mark).cls ∈ WD := WD_mem (i := 131) (by decide +kernel) rfl
theorem wnX12_mark : Cond.instanceMethod yX12_mark ∈ WD := WD_mem (i := 2055) (by decide +kernel) rfl
theorem weX12_mark : Cond.selects (yX12_mark).cls yX12_mark yX12_mark ∈ WD := WD_mem (i := 2056) (by decide +kernel) rfl
theorem ykX11_count : yok yX11_count 1 := by unfold yok; decide +kernel
theorem wcX11_count : Cond.code yX11_count cX11_count 2 (some .int) ∈ WD := WD_mem (i := 1369) rfl rfl
theorem wiX11_count : Cond.initialized (yX11_count).cls ∈ WD := WD_mem (i := 119) (by decide +kernel) rfl
theorem wnX11_count : Cond.instanceMethod yX11_count ∈ WD := WD_mem (i := 1367) (by decide +kernel) rfl
theorem weX11_count : Cond.selects (yX11_count).cls yX11_count yX11_count ∈ WD := WD_mem (i := 1368) (by decide +kernel) rfl
theorem ykX12_count : yok yX12_count 1 := by unfold yok; decide +kernel
theorem wcX12_count : Cond.code yX12_count cX12_count 2 (some .int) ∈ WD := WD_mem (i := 2061) rfl rfl
theorem wiX12_count : Cond.initialized (yX12_count).cls ∈ WD := WD_mem (i := 131) (by decide +kernel) rfl
theorem wnX12_count : Cond.instanceMethod yX12_count ∈ WD := WD_mem (i := 2059) (by decide +kernel) rfl
theorem weX12_count : Cond.selects (yX12_count).cls yX12_count yX12_count ∈ WD := WD_mem (i := 2060) (by decide +kernel) rfl
theorem vkL_21 : vok RL 21 yX11_feed cX11_feed 7 (some .int) := vok_of (WD_mem (i := 529) (by decide +kernel) rfl) wnX11_feed weX11_feed wiX11_feed wcX11_feed
theorem vkL_25 : vok RL 25 yX12_feed cX12_feed 7 (some .int) := vok_of (WD_mem (i := 1453) (by decide +kernel) rfl) wnX12_feed weX12_feed wiX12_feed wcX12_feed
theorem vkL_26 : vok RL 26 yX11_hills cX11_hills 3 (some .int) := vok_of (WD_mem (i := 537) (by decide +kernel) rfl) wnX11_hills weX11_hills wiX11_hills wcX11_hills
theorem vkL_30 : vok RL 30 yX12_hills cX12_hills 2 (some .int) := vok_of (WD_mem (i := 1588) (by decide +kernel) rfl) wnX12_hills weX12_hills wiX12_hills wcX12_hills
theorem vkL_31 : vok RL 31 yX11_trip cX11_trip 3 (some .int) := vok_of (WD_mem (i := 741) (by decide +kernel) rfl) wnX11_trip weX11_trip wiX11_trip wcX11_trip
theorem vkL_34 : vok RL 34 yX12_trip cX12_trip 4 (some .int) := vok_of (WD_mem (i := 1703) (by decide +kernel) rfl) wnX12_trip weX12_trip wiX12_trip wcX12_trip
theorem vkL_35 : vok RL 35 yX11_hut cX11_hut 3 (some .int) := vok_of (WD_mem (i := 758) (by decide +kernel) rfl) wnX11_hut weX11_hut wiX11_hut wcX11_hut
theorem vkL_39 : vok RL 39 yX12_hut cX12_hut 3 (some .int) := vok_of (WD_mem (i := 1707) (by decide +kernel) rfl) wnX12_hut weX12_hut wiX12_hut wcX12_hut
theorem vkL_40 : vok RL 40 yX11_price cX11_price 3 (some .int) := vok_of (WD_mem (i := 776) (by decide +kernel) rfl) wnX11_price weX11_price wiX11_price wcX11_price
theorem vkL_43 : vok RL 43 yX12_price cX12_price 3 (some .int) := vok_of (WD_mem (i := 1730) (by decide +kernel) rfl) wnX12_price weX12_price wiX12_price wcX12_price
theorem vkL_44 : vok RL 44 yX11_can cX11_can 3 (some .boolean) := vok_of (WD_mem (i := 788) (by decide +kernel) rfl) wnX11_can weX11_can wiX11_can wcX11_can
theorem vkL_48 : vok RL 48 yX12_can cX12_can 3 (some .boolean) := vok_of (WD_mem (i := 1738) (by decide +kernel) rfl) wnX12_can weX12_can wiX12_can wcX12_can
theorem vkL_49 : vok RL 49 yX11_carry cX11_carry 4 (some .int) := vok_of (WD_mem (i := 816) (by decide +kernel) rfl) wnX11_carry weX11_carry wiX11_carry wcX11_carry
theorem vkL_52 : vok RL 52 yX12_carry cX12_carry 3 (some .int) := vok_of (WD_mem (i := 1757) (by decide +kernel) rfl) wnX12_carry weX12_carry wiX12_carry wcX12_carry
theorem vkL_53 : vok RL 53 yX11_lay cX11_lay 2 (some .int) := vok_of (WD_mem (i := 825) (by decide +kernel) rfl) wnX11_lay weX11_lay wiX11_lay wcX11_lay
theorem vkL_57 : vok RL 57 yX12_lay_ cX12_lay_ 2 (some .int) := vok_of (WD_mem (i := 1777) (by decide +kernel) rfl) wnX12_lay_ weX12_lay_ wiX12_lay_ wcX12_lay_
theorem vkL_58 : vok RL 58 yX11_eat cX11_eat 2 (some .int) := vok_of (WD_mem (i := 838) (by decide +kernel) rfl) wnX11_eat weX11_eat wiX11_eat wcX11_eat
theorem vkL_61 : vok RL 61 yX12_eat cX12_eat 2 (some .int) := vok_of (WD_mem (i := 1781) (by decide +kernel) rfl) wnX12_eat weX12_eat wiX12_eat wcX12_eat
theorem vkL_62 : vok RL 62 yX11_undo cX11_undo 1 (some .boolean) := vok_of (WD_mem (i := 846) (by decide +kernel) rfl) wnX11_undo weX11_undo wiX11_undo wcX11_undo
theorem vkL_66 : vok RL 66 yX12_undo cX12_undo 1 (some .boolean) := vok_of (WD_mem (i := 1785) (by decide +kernel) rfl) wnX12_undo weX12_undo wiX12_undo wcX12_undo
theorem vkL_67 : vok RL 67 yX11_judged cX11_judged 2 (some .int) := vok_of (WD_mem (i := 854) (by decide +kernel) rfl) wnX11_judged weX11_judged wiX11_judged wcX11_judged
theorem vkL_70 : vok RL 70 yX12_judged cX12_judged 9 (some .int) := vok_of (WD_mem (i := 1789) (by decide +kernel) rfl) wnX12_judged weX12_judged wiX12_judged wcX12_judged
theorem vkL_71 : vok RL 71 yX11_most cX11_most 2 (some .int) := vok_of (WD_mem (i := 879) (by decide +kernel) rfl) wnX11_most weX11_most wiX11_most wcX11_most
theorem vkL_74 : vok RL 74 yX12_most cX12_most 2 (some .int) := vok_of (WD_mem (i := 1797) (by decide +kernel) rfl) wnX12_most weX12_most wiX12_most wcX12_most
theorem vkL_75 : vok RL 75 yX11_least cX11_least 2 (some .int) := vok_of (WD_mem (i := 946) (by decide +kernel) rfl) wnX11_least weX11_least wiX11_least wcX11_least
theorem vkL_78 : vok RL 78 yX12_least cX12_least 2 (some .int) := vok_of (WD_mem (i := 1845) (by decide +kernel) rfl) wnX12_least weX12_least wiX12_least wcX12_least
theorem vkL_79 : vok RL 79 yX11_row cX11_row 3 (some .int) := vok_of (WD_mem (i := 992) (by decide +kernel) rfl) wnX11_row weX11_row wiX11_row wcX11_row
theorem vkL_82 : vok RL 82 yX12_row cX12_row 9 (some .int) := vok_of (WD_mem (i := 1853) (by decide +kernel) rfl) wnX12_row weX12_row wiX12_row wcX12_row
theorem vkL_83 : vok RL 83 yX11_ways cX11_ways 3 (some .int) := vok_of (WD_mem (i := 1010) (by decide +kernel) rfl) wnX11_ways weX11_ways wiX11_ways wcX11_ways
theorem vkL_86 : vok RL 86 yX12_ways cX12_ways 2 (some .int) := vok_of (WD_mem (i := 1849) (by decide +kernel) rfl) wnX12_ways weX12_ways wiX12_ways wcX12_ways
theorem vkL_87 : vok RL 87 yX11_over cX11_over 2 (some .int) := vok_of (WD_mem (i := 1041) (by decide +kernel) rfl) wnX11_over weX11_over wiX11_over wcX11_over
theorem vkL_90 : vok RL 90 yX12_over cX12_over 3 (some .int) := vok_of (WD_mem (i := 1857) (by decide +kernel) rfl) wnX12_over weX12_over wiX12_over wcX12_over
theorem vkL_91 : vok RL 91 yX11_cover cX11_cover 1 (some .int) := vok_of (WD_mem (i := 1049) (by decide +kernel) rfl) wnX11_cover weX11_cover wiX11_cover wcX11_cover
theorem vkL_94 : vok RL 94 yX12_cover cX12_cover 1 (some .int) := vok_of (WD_mem (i := 1861) (by decide +kernel) rfl) wnX12_cover weX12_cover wiX12_cover wcX12_cover
theorem vkL_95 : vok RL 95 yX11_both cX11_both 3 (some .int) := vok_of (WD_mem (i := 1059) (by decide +kernel) rfl) wnX11_both weX11_both wiX11_both wcX11_both
theorem vkL_98 : vok RL 98 yX12_both cX12_both 3 (some .int) := vok_of (WD_mem (i := 1865) (by decide +kernel) rfl) wnX12_both weX12_both wiX12_both wcX12_both
theorem vkL_99 : vok RL 99 yX11_shrink cX11_shrink 2 (some .int) := vok_of (WD_mem (i := 1063) (by decide +kernel) rfl) wnX11_shrink weX11_shrink wiX11_shrink wcX11_shrink
theorem vkL_102 : vok RL 102 yX12_shrink cX12_shrink 2 (some .int) := vok_of (WD_mem (i := 1869) (by decide +kernel) rfl) wnX12_shrink weX12_shrink wiX12_shrink wcX12_shrink
theorem vkL_103 : vok RL 103 yX11_stuck cX11_stuck 1 (some .boolean) := vok_of (WD_mem (i := 1074) (by decide +kernel) rfl) wnX11_stuck weX11_stuck wiX11_stuck wcX11_stuck
theorem vkL_106 : vok RL 106 yX12_stuck cX12_stuck 1 (some .boolean) := vok_of (WD_mem (i := 1873) (by decide +kernel) rfl) wnX12_stuck weX12_stuck wiX12_stuck wcX12_stuck
theorem vkL_107 : vok RL 107 yX11_longest cX11_longest 1 (some .int) := vok_of (WD_mem (i := 1082) (by decide +kernel) rfl) wnX11_longest weX11_longest wiX11_longest wcX11_longest
theorem vkL_110 : vok RL 110 yX12_longest cX12_longest 1 (some .int) := vok_of (WD_mem (i := 1877) (by decide +kernel) rfl) wnX12_longest weX12_longest wiX12_longest wcX12_longest
theorem vkL_111 : vok RL 111 yX11_ends cX11_ends 1 (some .int) := vok_of (WD_mem (i := 1090) (by decide +kernel) rfl) wnX11_ends weX11_ends wiX11_ends wcX11_ends
theorem vkL_114 : vok RL 114 yX12_ends cX12_ends 4 (some .int) := vok_of (WD_mem (i := 1881) (by decide +kernel) rfl) wnX12_ends weX12_ends wiX12_ends wcX12_ends
theorem vkL_115 : vok RL 115 yX11_alone cX11_alone 3 (some .int) := vok_of (WD_mem (i := 1098) (by decide +kernel) rfl) wnX11_alone weX11_alone wiX11_alone wcX11_alone
theorem vkL_118 : vok RL 118 yX12_alone cX12_alone 3 (some .int) := vok_of (WD_mem (i := 1889) (by decide +kernel) rfl) wnX12_alone weX12_alone wiX12_alone wcX12_alone
theorem vkL_119 : vok RL 119 yX11_needed cX11_needed 5 (some .int) := vok_of (WD_mem (i := 1106) (by decide +kernel) rfl) wnX11_needed weX11_needed wiX11_needed wcX11_needed
theorem vkL_122 : vok RL 122 yX12_needed cX12_needed 4 (some .int) := vok_of (WD_mem (i := 1897) (by decide +kernel) rfl) wnX12_needed weX12_needed wiX12_needed wcX12_needed
theorem vkL_123 : vok RL 123 yX11_brings cX11_brings 2 (some .int) := vok_of (WD_mem (i := 1114) (by decide +kernel) rfl) wnX11_brings weX11_brings wiX11_brings wcX11_brings
theorem vkL_126 : vok RL 126 yX12_brings cX12_brings 2 (some .int) := vok_of (WD_mem (i := 1905) (by decide +kernel) rfl) wnX12_brings weX12_brings wiX12_brings wcX12_brings
theorem vkL_127 : vok RL 127 yX11_lack cX11_lack 4 (some .int) := vok_of (WD_mem (i := 1126) (by decide +kernel) rfl) wnX11_lack weX11_lack wiX11_lack wcX11_lack
theorem vkL_130 : vok RL 130 yX12_lack cX12_lack 4 (some .int) := vok_of (WD_mem (i := 1941) (by decide +kernel) rfl) wnX12_lack weX12_lack wiX12_lack wcX12_lack
theorem vkL_131 : vok RL 131 yX11_guard cX11_guard 4 (some .int) := vok_of (WD_mem (i := 1136) (by decide +kernel) rfl) wnX11_guard weX11_guard wiX11_guard wcX11_guard
theorem vkL_134 : vok RL 134 yX12_guard cX12_guard 4 (some .int) := vok_of (WD_mem (i := 1949) (by decide +kernel) rfl) wnX12_guard weX12_guard wiX12_guard wcX12_guard
theorem vkL_135 : vok RL 135 yX11_before cX11_before 1 (some .int) := vok_of (WD_mem (i := 1158) (by decide +kernel) rfl) wnX11_before weX11_before wiX11_before wcX11_before
theorem vkL_138 : vok RL 138 yX12_before cX12_before 1 (some .int) := vok_of (WD_mem (i := 1929) (by decide +kernel) rfl) wnX12_before weX12_before wiX12_before wcX12_before
theorem vkL_139 : vok RL 139 yX11_reach cX11_reach 2 (some .int) := vok_of (WD_mem (i := 1167) (by decide +kernel) rfl) wnX11_reach weX11_reach wiX11_reach wcX11_reach
theorem vkL_142 : vok RL 142 yX12_reach cX12_reach 2 (some .int) := vok_of (WD_mem (i := 1909) (by decide +kernel) rfl) wnX12_reach weX12_reach wiX12_reach wcX12_reach
theorem vkL_143 : vok RL 143 yX11_far cX11_far 3 (some .int) := vok_of (WD_mem (i := 1180) (by decide +kernel) rfl) wnX11_far weX11_far wiX11_far wcX11_far
theorem vkL_146 : vok RL 146 yX12_far cX12_far 7 (some .int) := vok_of (WD_mem (i := 1917) (by decide +kernel) rfl) wnX12_far weX12_far wiX12_far wcX12_far
theorem vkL_147 : vok RL 147 yX11_rich cX11_rich 4 (some .int) := vok_of (WD_mem (i := 1188) (by decide +kernel) rfl) wnX11_rich weX11_rich wiX11_rich wcX11_rich
theorem vkL_150 : vok RL 150 yX12_rich cX12_rich 3 (some .int) := vok_of (WD_mem (i := 1921) (by decide +kernel) rfl) wnX12_rich weX12_rich wiX12_rich wcX12_rich
theorem vkL_151 : vok RL 151 yX11_cheap cX11_cheap 3 (some .int) := vok_of (WD_mem (i := 1192) (by decide +kernel) rfl) wnX11_cheap weX11_cheap wiX11_cheap wcX11_cheap
theorem vkL_154 : vok RL 154 yX12_cheap cX12_cheap 7 (some .int) := vok_of (WD_mem (i := 1925) (by decide +kernel) rfl) wnX12_cheap weX12_cheap wiX12_cheap wcX12_cheap
theorem vkL_155 : vok RL 155 yX11_layings cX11_layings 2 (some .int) := vok_of (WD_mem (i := 1207) (by decide +kernel) rfl) wnX11_layings weX11_layings wiX11_layings wcX11_layings
theorem vkL_158 : vok RL 158 yX12_layings cX12_layings 2 (some .int) := vok_of (WD_mem (i := 1957) (by decide +kernel) rfl) wnX12_layings weX12_layings wiX12_layings wcX12_layings
theorem vkL_159 : vok RL 159 yX11_comes cX11_comes 3 (some .int) := vok_of (WD_mem (i := 1216) (by decide +kernel) rfl) wnX11_comes weX11_comes wiX11_comes wcX11_comes
theorem vkL_162 : vok RL 162 yX12_comes cX12_comes 3 (some .int) := vok_of (WD_mem (i := 1965) (by decide +kernel) rfl) wnX12_comes weX12_comes wiX12_comes wcX12_comes
theorem vkL_163 : vok RL 163 yX11_eden cX11_eden 2 (some .int) := vok_of (WD_mem (i := 1224) (by decide +kernel) rfl) wnX11_eden weX11_eden wiX11_eden wcX11_eden
theorem vkL_166 : vok RL 166 yX12_eden cX12_eden 4 (some .int) := vok_of (WD_mem (i := 1969) (by decide +kernel) rfl) wnX12_eden weX12_eden wiX12_eden wcX12_eden
theorem vkL_167 : vok RL 167 yX11_sure cX11_sure 2 (some .int) := vok_of (WD_mem (i := 1233) (by decide +kernel) rfl) wnX11_sure weX11_sure wiX11_sure wcX11_sure
theorem vkL_170 : vok RL 170 yX12_sure cX12_sure 2 (some .int) := vok_of (WD_mem (i := 1973) (by decide +kernel) rfl) wnX12_sure weX12_sure wiX12_sure wcX12_sure
theorem vkL_171 : vok RL 171 yX11_always cX11_always 1 (some .int) := vok_of (WD_mem (i := 1245) (by decide +kernel) rfl) wnX11_always weX11_always wiX11_always wcX11_always
theorem vkL_174 : vok RL 174 yX12_always cX12_always 1 (some .int) := vok_of (WD_mem (i := 1981) (by decide +kernel) rfl) wnX12_always weX12_always wiX12_always wcX12_always
theorem vkL_175 : vok RL 175 yX11_worst cX11_worst 5 (some .int) := vok_of (WD_mem (i := 1249) (by decide +kernel) rfl) wnX11_worst weX11_worst wiX11_worst wcX11_worst
theorem vkL_179 : vok RL 179 yX12_worst cX12_worst 5 (some .int) := vok_of (WD_mem (i := 1985) (by decide +kernel) rfl) wnX12_worst weX12_worst wiX12_worst wcX12_worst
theorem vkL_180 : vok RL 180 yX11_best cX11_best 3 (some .int) := vok_of (WD_mem (i := 1257) (by decide +kernel) rfl) wnX11_best weX11_best wiX11_best wcX11_best
theorem vkL_183 : vok RL 183 yX12_best cX12_best 4 (some .int) := vok_of (WD_mem (i := 1989) (by decide +kernel) rfl) wnX12_best weX12_best wiX12_best wcX12_best
theorem vkL_184 : vok RL 184 yX11_wins cX11_wins 3 (some .int) := vok_of (WD_mem (i := 1266) (by decide +kernel) rfl) wnX11_wins weX11_wins wiX11_wins wcX11_wins
theorem vkL_187 : vok RL 187 yX12_wins cX12_wins 4 (some .int) := vok_of (WD_mem (i := 1993) (by decide +kernel) rfl) wnX12_wins weX12_wins wiX12_wins wcX12_wins
theorem vkL_188 : vok RL 188 yX11_his cX11_his 2 (some .int) := vok_of (WD_mem (i := 1274) (by decide +kernel) rfl) wnX11_his weX11_his wiX11_his wcX11_his
theorem vkL_191 : vok RL 191 yX12_his cX12_his 8 (some .int) := vok_of (WD_mem (i := 1997) (by decide +kernel) rfl) wnX12_his weX12_his wiX12_his wcX12_his
theorem vkL_192 : vok RL 192 yX11_see cX11_see 4 (some .boolean) := vok_of (WD_mem (i := 1283) (by decide +kernel) rfl) wnX11_see weX11_see wiX11_see wcX11_see
theorem vkL_196 : vok RL 196 yX12_see cX12_see 5 (some .boolean) := vok_of (WD_mem (i := 2002) (by decide +kernel) rfl) wnX12_see weX12_see wiX12_see wcX12_see
theorem vkL_197 : vok RL 197 yX11_fit cX11_fit 1 (some .int) := vok_of (WD_mem (i := 1291) (by decide +kernel) rfl) wnX11_fit weX11_fit wiX11_fit wcX11_fit
theorem vkL_200 : vok RL 200 yX12_fit cX12_fit 1 (some .int) := vok_of (WD_mem (i := 2006) (by decide +kernel) rfl) wnX12_fit weX12_fit wiX12_fit wcX12_fit
theorem vkL_201 : vok RL 201 yX11_look cX11_look 1 (some .int) := vok_of (WD_mem (i := 1304) (by decide +kernel) rfl) wnX11_look weX11_look wiX11_look wcX11_look
theorem vkL_204 : vok RL 204 yX12_look cX12_look 8 (some .int) := vok_of (WD_mem (i := 2018) (by decide +kernel) rfl) wnX12_look weX12_look wiX12_look wcX12_look
theorem vkL_205 : vok RL 205 yX11_chance cX11_chance 3 (some .int) := vok_of (WD_mem (i := 1319) (by decide +kernel) rfl) wnX11_chance weX11_chance wiX11_chance wcX11_chance
theorem vkL_208 : vok RL 208 yX12_chance cX12_chance 6 (some .int) := vok_of (WD_mem (i := 2022) (by decide +kernel) rfl) wnX12_chance weX12_chance wiX12_chance wcX12_chance
theorem vkL_218 : vok RL 218 yX11_seasons cX11_seasons 4 (some .int) := vok_of (WD_mem (i := 1332) (by decide +kernel) rfl) wnX11_seasons weX11_seasons wiX11_seasons wcX11_seasons
theorem vkL_221 : vok RL 221 yX12_seasons cX12_seasons 6 (some .int) := vok_of (WD_mem (i := 2038) (by decide +kernel) rfl) wnX12_seasons weX12_seasons wiX12_seasons wcX12_seasons
theorem vkL_222 : vok RL 222 yX11_mark cX11_mark 3 (some .boolean) := vok_of (WD_mem (i := 1354) (by decide +kernel) rfl) wnX11_mark weX11_mark wiX11_mark wcX11_mark
theorem vkL_226 : vok RL 226 yX12_mark cX12_mark 3 (some .boolean) := vok_of (WD_mem (i := 2054) (by decide +kernel) rfl) wnX12_mark weX12_mark wiX12_mark wcX12_mark
theorem vkL_227 : vok RL 227 yX11_count cX11_count 2 (some .int) := vok_of (WD_mem (i := 1366) (by decide +kernel) rfl) wnX11_count weX11_count wiX11_count wcX11_count
theorem vkL_230 : vok RL 230 yX12_count cX12_count 2 (some .int) := vok_of (WD_mem (i := 2058) (by decide +kernel) rfl) wnX12_count weX12_count wiX12_count wcX12_count
