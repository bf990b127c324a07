section
theorem v_886 : verC 2 132 3000 0 (lkGS rgL) rdp mt m_292 c_886 (lkCL [(474, 221, c_474)]) [(9, 474)] rLLh [] [] (none, fun _ => none, (0, 0)) = true := by decide +kernel
theorem v_887 : verC 2 132 3000 0 (lkGS rgL) rdp mt m_357 c_887 (lkCL [(27, 52, c_27)]) [(26, 27)] rLLh [] [] (none, fun _ => none, (0, 0)) = true := by decide +kernel
theorem v_888 : verC 1 132 3000 0 (lkGS rgL) rdp mt m_358 c_888 (lkCL [(887, 357, c_887)]) [(2, 887)] rLLh [] [] (none, fun _ => none, (0, 0)) = true := by decide +kernel
theorem v_889 : verC 2 132 3000 0 (lkGS rgL) rdp mt m_163 c_889 (lkCL [(740, 158, c_740), (888, 358, c_888)]) [(9, 740), (31, 888)] rLLh [] [] (none, fun _ => none, (0, 0)) = true := by decide +kernel
theorem v_890 : verC 1 132 3000 0 (lkGS rgL) rdp mt m_162 c_890 (lkCL [(889, 163, c_889)]) [(4, 889)] rLLh [] [] (none, fun _ => none, (0, 0)) = true := by decide +kernel
theorem v_891 : verC 2 132 3000 0 (lkGS rgL) rdp mt m_357 c_891 (lkCL [(27, 52, c_27)]) [(26, 27)] rLLh [] [] (none, fun _ => none, (0, 0)) = true := by decide +kernel
theorem v_892 : verC 1 132 3000 0 (lkGS rgL) rdp mt m_358 c_892 (lkCL [(891, 357, c_891)]) [(2, 891)] rLLh [] [] (none, fun _ => none, (0, 0)) = true := by decide +kernel
theorem v_893 : verC 2 132 3000 0 (lkGS rgL) rdp mt m_163 c_893 (lkCL [(740, 158, c_740), (892, 358, c_892)]) [(9, 740), (31, 892)] rLLh [] [] (none, fun _ => none, (0, 0)) = true := by decide +kernel
theorem v_894 : verC 1 132 3000 0 (lkGS rgL) rdp mt m_162 c_894 (lkCL [(893, 163, c_893)]) [(4, 893)] rLLh [] [] (none, fun _ => none, (0, 0)) = true := by decide +kernel
theorem v_895 : verC 2 132 3000 0 (lkGS rgL) rdp mt m_357 c_895 (lkCL [(27, 52, c_27)]) [(26, 27)] rLLh [] [] (none, fun _ => none, (0, 0)) = true := by decide +kernel
theorem v_896 : verC 1 132 3000 0 (lkGS rgL) rdp mt m_358 c_896 (lkCL [(895, 357, c_895)]) [(2, 895)] rLLh [] [] (none, fun _ => none, (0, 0)) = true := by decide +kernel
theorem v_897 : verC 2 132 3000 0 (lkGS rgL) rdp mt m_163 c_897 (lkCL [(740, 158, c_740), (896, 358, c_896)]) [(9, 740), (31, 896)] rLLh [] [] (none, fun _ => none, (0, 0)) = true := by decide +kernel
theorem v_898 : verC 1 132 3000 0 (lkGS rgL) rdp mt m_162 c_898 (lkCL [(897, 163, c_897)]) [(4, 897)] rLLh [] [] (none, fun _ => none, (0, 0)) = true := by decide +kernel
theorem v_899 : verC 2 132 3000 0 (lkGS rgL) rdp mt m_357 c_899 (lkCL [(27, 52, c_27)]) [(26, 27)] rLLh [] [] (none, fun _ => none, (0, 0)) = true := by decide +kernel
theorem v_900 : verC 1 132 3000 0 (lkGS rgL) rdp mt m_358 c_900 (lkCL [(899, 357, c_899)]) [(2, 899)] rLLh [] [] (none, fun _ => none, (0, 0)) = true := by decide +kernel
theorem v_901 : verC 2 132 3000 0 (lkGS rgL) rdp mt m_163 c_901 (lkCL [(740, 158, c_740), (900, 358, c_900)]) [(9, 740), (31, 900)] rLLh [] [] (none, fun _ => none, (0, 0)) = true := by decide +kernel
theorem v_902 : verC 1 132 3000 0 (lkGS rgL) rdp mt m_162 c_902 (lkCL [(901, 163, c_901)]) [(4, 901)] rLLh [] [] (none, fun _ => none, (0, 0)) = true := by decide +kernel
theorem v_903 : verC 2 132 3000 0 (lkGS rgL) rdp mt m_357 c_903 (lkCL [(27, 52, c_27)]) [(26, 27)] rLLh [] [] (none, fun _ => none, (0, 0)) = true := by decide +kernel
theorem v_904 : verC 1 132 3000 0 (lkGS rgL) rdp mt m_358 c_904 (lkCL [(903, 357, c_903)]) [(2, 903)] rLLh [] [] (none, fun _ => none, (0, 0)) = true := by decide +kernel
theorem v_905 : verC 2 132 3000 0 (lkGS rgL) rdp mt m_163 c_905 (lkCL [(740, 158, c_740), (904, 358, c_904)]) [(9, 740), (31, 904)] rLLh [] [] (none, fun _ => none, (0, 0)) = true := by decide +kernel
theorem v_906 : verC 1 132 3000 0 (lkGS rgL) rdp mt m_162 c_906 (lkCL [(905, 163, c_905)]) [(4, 905)] rLLh [] [] (none, fun _ => none, (0, 0)) = true := by decide +kernel
theorem v_907 : verC 2 132 3000 0 (lkGS rgL) rdp mt m_357 c_907 (lkCL [(27, 52, c_27)]) [(26, 27)] rLLh [] [] (none, fun _ => none, (0, 0)) = true := by decide +kernel
theorem v_908 : verC 1 132 3000 0 (lkGS rgL) rdp mt m_358 c_908 (lkCL [(907, 357, c_907)]) [(2, 907)] rLLh [] [] (none, fun _ => none, (0, 0)) = true := by decide +kernel
theorem v_909 : verC 2 132 3000 0 (lkGS rgL) rdp mt m_163 c_909 (lkCL [(740, 158, c_740), (908, 358, c_908)]) [(9, 740), (31, 908)] rLLh [] [] (none, fun _ => none, (0, 0)) = true := by decide +kernel
theorem v_910 : verC 1 132 3000 0 (lkGS rgL) rdp mt m_162 c_910 (lkCL [(909, 163, c_909)]) [(4, 909)] rLLh [] [] (none, fun _ => none, (0, 0)) = true := by decide +kernel
end
