section
theorem v_885 : verC 2 132 3000 0 (lkGS rgL) rdp mt m_291 c_885 (lkCL [(473, 220, c_473)]) [(9, 473)] rLLh [] [] (none, fun _ => none, (0, 0)) = true := by decide +kernel
theorem v_886 : verC 2 132 3000 0 (lkGS rgL) rdp mt m_356 c_886 (lkCL [(26, 52, c_26)]) [(26, 26)] rLLh [] [] (none, fun _ => none, (0, 0)) = true := by decide +kernel
theorem v_887 : verC 1 132 3000 0 (lkGS rgL) rdp mt m_357 c_887 (lkCL [(886, 356, c_886)]) [(2, 886)] rLLh [] [] (none, fun _ => none, (0, 0)) = true := by decide +kernel
theorem v_888 : verC 2 132 3000 0 (lkGS rgL) rdp mt m_163 c_888 (lkCL [(739, 158, c_739), (887, 357, c_887)]) [(9, 739), (31, 887)] rLLh [] [] (none, fun _ => none, (0, 0)) = true := by decide +kernel
theorem v_889 : verC 1 132 3000 0 (lkGS rgL) rdp mt m_162 c_889 (lkCL [(888, 163, c_888)]) [(4, 888)] rLLh [] [] (none, fun _ => none, (0, 0)) = true := by decide +kernel
theorem v_890 : verC 2 132 3000 0 (lkGS rgL) rdp mt m_356 c_890 (lkCL [(26, 52, c_26)]) [(26, 26)] rLLh [] [] (none, fun _ => none, (0, 0)) = true := by decide +kernel
theorem v_891 : verC 1 132 3000 0 (lkGS rgL) rdp mt m_357 c_891 (lkCL [(890, 356, c_890)]) [(2, 890)] rLLh [] [] (none, fun _ => none, (0, 0)) = true := by decide +kernel
theorem v_892 : verC 2 132 3000 0 (lkGS rgL) rdp mt m_163 c_892 (lkCL [(739, 158, c_739), (891, 357, c_891)]) [(9, 739), (31, 891)] rLLh [] [] (none, fun _ => none, (0, 0)) = true := by decide +kernel
theorem v_893 : verC 1 132 3000 0 (lkGS rgL) rdp mt m_162 c_893 (lkCL [(892, 163, c_892)]) [(4, 892)] rLLh [] [] (none, fun _ => none, (0, 0)) = true := by decide +kernel
theorem v_894 : verC 2 132 3000 0 (lkGS rgL) rdp mt m_356 c_894 (lkCL [(26, 52, c_26)]) [(26, 26)] rLLh [] [] (none, fun _ => none, (0, 0)) = true := by decide +kernel
theorem v_895 : verC 1 132 3000 0 (lkGS rgL) rdp mt m_357 c_895 (lkCL [(894, 356, c_894)]) [(2, 894)] rLLh [] [] (none, fun _ => none, (0, 0)) = true := by decide +kernel
theorem v_896 : verC 2 132 3000 0 (lkGS rgL) rdp mt m_163 c_896 (lkCL [(739, 158, c_739), (895, 357, c_895)]) [(9, 739), (31, 895)] rLLh [] [] (none, fun _ => none, (0, 0)) = true := by decide +kernel
theorem v_897 : verC 1 132 3000 0 (lkGS rgL) rdp mt m_162 c_897 (lkCL [(896, 163, c_896)]) [(4, 896)] rLLh [] [] (none, fun _ => none, (0, 0)) = true := by decide +kernel
theorem v_898 : verC 2 132 3000 0 (lkGS rgL) rdp mt m_356 c_898 (lkCL [(26, 52, c_26)]) [(26, 26)] rLLh [] [] (none, fun _ => none, (0, 0)) = true := by decide +kernel
theorem v_899 : verC 1 132 3000 0 (lkGS rgL) rdp mt m_357 c_899 (lkCL [(898, 356, c_898)]) [(2, 898)] rLLh [] [] (none, fun _ => none, (0, 0)) = true := by decide +kernel
theorem v_900 : verC 2 132 3000 0 (lkGS rgL) rdp mt m_163 c_900 (lkCL [(739, 158, c_739), (899, 357, c_899)]) [(9, 739), (31, 899)] rLLh [] [] (none, fun _ => none, (0, 0)) = true := by decide +kernel
theorem v_901 : verC 1 132 3000 0 (lkGS rgL) rdp mt m_162 c_901 (lkCL [(900, 163, c_900)]) [(4, 900)] rLLh [] [] (none, fun _ => none, (0, 0)) = true := by decide +kernel
theorem v_902 : verC 2 132 3000 0 (lkGS rgL) rdp mt m_356 c_902 (lkCL [(26, 52, c_26)]) [(26, 26)] rLLh [] [] (none, fun _ => none, (0, 0)) = true := by decide +kernel
theorem v_903 : verC 1 132 3000 0 (lkGS rgL) rdp mt m_357 c_903 (lkCL [(902, 356, c_902)]) [(2, 902)] rLLh [] [] (none, fun _ => none, (0, 0)) = true := by decide +kernel
theorem v_904 : verC 2 132 3000 0 (lkGS rgL) rdp mt m_163 c_904 (lkCL [(739, 158, c_739), (903, 357, c_903)]) [(9, 739), (31, 903)] rLLh [] [] (none, fun _ => none, (0, 0)) = true := by decide +kernel
theorem v_905 : verC 1 132 3000 0 (lkGS rgL) rdp mt m_162 c_905 (lkCL [(904, 163, c_904)]) [(4, 904)] rLLh [] [] (none, fun _ => none, (0, 0)) = true := by decide +kernel
theorem v_906 : verC 2 132 3000 0 (lkGS rgL) rdp mt m_356 c_906 (lkCL [(26, 52, c_26)]) [(26, 26)] rLLh [] [] (none, fun _ => none, (0, 0)) = true := by decide +kernel
theorem v_907 : verC 1 132 3000 0 (lkGS rgL) rdp mt m_357 c_907 (lkCL [(906, 356, c_906)]) [(2, 906)] rLLh [] [] (none, fun _ => none, (0, 0)) = true := by decide +kernel
theorem v_908 : verC 2 132 3000 0 (lkGS rgL) rdp mt m_163 c_908 (lkCL [(739, 158, c_739), (907, 357, c_907)]) [(9, 739), (31, 907)] rLLh [] [] (none, fun _ => none, (0, 0)) = true := by decide +kernel
theorem v_909 : verC 1 132 3000 0 (lkGS rgL) rdp mt m_162 c_909 (lkCL [(908, 163, c_908)]) [(4, 908)] rLLh [] [] (none, fun _ => none, (0, 0)) = true := by decide +kernel
end
