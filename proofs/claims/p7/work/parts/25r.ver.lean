section
theorem v_1169 : verC 1 132 3000 0 (lkGS rgL) rdp mt m_162 c_1169 (lkCL [(1168, 163, c_1168)]) [(4, 1168)] rLLh [] [] (none, fun _ => none, (0, 0)) = true := by decide +kernel
theorem v_1170 : verC 2 132 3000 0 (lkGS rgL) rdp mt m_291 c_1170 (lkCL [(480, 220, c_480)]) [(9, 480)] rLLh [] [] (none, fun _ => none, (0, 0)) = true := by decide +kernel
theorem v_1171 : verC 2 132 3000 0 (lkGS rgL) rdp mt m_356 c_1171 (lkCL [(26, 52, c_26)]) [(26, 26)] rLLh [] [] (none, fun _ => none, (0, 0)) = true := by decide +kernel
theorem v_1172 : verC 1 132 3000 0 (lkGS rgL) rdp mt m_357 c_1172 (lkCL [(1171, 356, c_1171)]) [(2, 1171)] rLLh [] [] (none, fun _ => none, (0, 0)) = true := by decide +kernel
theorem v_1173 : verC 2 132 3000 0 (lkGS rgL) rdp mt m_163 c_1173 (lkCL [(1024, 158, c_1024), (1172, 357, c_1172)]) [(9, 1024), (31, 1172)] rLLh [] [] (none, fun _ => none, (0, 0)) = true := by decide +kernel
theorem v_1174 : verC 1 132 3000 0 (lkGS rgL) rdp mt m_162 c_1174 (lkCL [(1173, 163, c_1173)]) [(4, 1173)] rLLh [] [] (none, fun _ => none, (0, 0)) = true := by decide +kernel
theorem v_1175 : verC 2 132 3000 0 (lkGS rgL) rdp mt m_356 c_1175 (lkCL [(26, 52, c_26)]) [(26, 26)] rLLh [] [] (none, fun _ => none, (0, 0)) = true := by decide +kernel
theorem v_1176 : verC 1 132 3000 0 (lkGS rgL) rdp mt m_357 c_1176 (lkCL [(1175, 356, c_1175)]) [(2, 1175)] rLLh [] [] (none, fun _ => none, (0, 0)) = true := by decide +kernel
theorem v_1177 : verC 2 132 3000 0 (lkGS rgL) rdp mt m_163 c_1177 (lkCL [(1024, 158, c_1024), (1176, 357, c_1176)]) [(9, 1024), (31, 1176)] rLLh [] [] (none, fun _ => none, (0, 0)) = true := by decide +kernel
theorem v_1178 : verC 1 132 3000 0 (lkGS rgL) rdp mt m_162 c_1178 (lkCL [(1177, 163, c_1177)]) [(4, 1177)] rLLh [] [] (none, fun _ => none, (0, 0)) = true := by decide +kernel
theorem v_1179 : verC 2 132 3000 0 (lkGS rgL) rdp mt m_356 c_1179 (lkCL [(26, 52, c_26)]) [(26, 26)] rLLh [] [] (none, fun _ => none, (0, 0)) = true := by decide +kernel
theorem v_1180 : verC 1 132 3000 0 (lkGS rgL) rdp mt m_357 c_1180 (lkCL [(1179, 356, c_1179)]) [(2, 1179)] rLLh [] [] (none, fun _ => none, (0, 0)) = true := by decide +kernel
theorem v_1181 : verC 2 132 3000 0 (lkGS rgL) rdp mt m_163 c_1181 (lkCL [(1024, 158, c_1024), (1180, 357, c_1180)]) [(9, 1024), (31, 1180)] rLLh [] [] (none, fun _ => none, (0, 0)) = true := by decide +kernel
theorem v_1182 : verC 1 132 3000 0 (lkGS rgL) rdp mt m_162 c_1182 (lkCL [(1181, 163, c_1181)]) [(4, 1181)] rLLh [] [] (none, fun _ => none, (0, 0)) = true := by decide +kernel
theorem v_1183 : verC 2 132 3000 0 (lkGS rgL) rdp mt m_356 c_1183 (lkCL [(26, 52, c_26)]) [(26, 26)] rLLh [] [] (none, fun _ => none, (0, 0)) = true := by decide +kernel
theorem v_1184 : verC 1 132 3000 0 (lkGS rgL) rdp mt m_357 c_1184 (lkCL [(1183, 356, c_1183)]) [(2, 1183)] rLLh [] [] (none, fun _ => none, (0, 0)) = true := by decide +kernel
theorem v_1185 : verC 2 132 3000 0 (lkGS rgL) rdp mt m_163 c_1185 (lkCL [(1024, 158, c_1024), (1184, 357, c_1184)]) [(9, 1024), (31, 1184)] rLLh [] [] (none, fun _ => none, (0, 0)) = true := by decide +kernel
theorem v_1186 : verC 1 132 3000 0 (lkGS rgL) rdp mt m_162 c_1186 (lkCL [(1185, 163, c_1185)]) [(4, 1185)] rLLh [] [] (none, fun _ => none, (0, 0)) = true := by decide +kernel
theorem v_1187 : verC 2 132 3000 0 (lkGS rgL) rdp mt m_356 c_1187 (lkCL [(26, 52, c_26)]) [(26, 26)] rLLh [] [] (none, fun _ => none, (0, 0)) = true := by decide +kernel
theorem v_1188 : verC 1 132 3000 0 (lkGS rgL) rdp mt m_357 c_1188 (lkCL [(1187, 356, c_1187)]) [(2, 1187)] rLLh [] [] (none, fun _ => none, (0, 0)) = true := by decide +kernel
theorem v_1189 : verC 2 132 3000 0 (lkGS rgL) rdp mt m_163 c_1189 (lkCL [(1024, 158, c_1024), (1188, 357, c_1188)]) [(9, 1024), (31, 1188)] rLLh [] [] (none, fun _ => none, (0, 0)) = true := by decide +kernel
theorem v_1190 : verC 1 132 3000 0 (lkGS rgL) rdp mt m_162 c_1190 (lkCL [(1189, 163, c_1189)]) [(4, 1189)] rLLh [] [] (none, fun _ => none, (0, 0)) = true := by decide +kernel
theorem v_1191 : verC 2 132 3000 0 (lkGS rgL) rdp mt m_356 c_1191 (lkCL [(26, 52, c_26)]) [(26, 26)] rLLh [] [] (none, fun _ => none, (0, 0)) = true := by decide +kernel
theorem v_1192 : verC 1 132 3000 0 (lkGS rgL) rdp mt m_357 c_1192 (lkCL [(1191, 356, c_1191)]) [(2, 1191)] rLLh [] [] (none, fun _ => none, (0, 0)) = true := by decide +kernel
theorem v_1193 : verC 2 132 3000 0 (lkGS rgL) rdp mt m_163 c_1193 (lkCL [(1024, 158, c_1024), (1192, 357, c_1192)]) [(9, 1024), (31, 1192)] rLLh [] [] (none, fun _ => none, (0, 0)) = true := by decide +kernel
theorem v_1194 : verC 1 132 3000 0 (lkGS rgL) rdp mt m_162 c_1194 (lkCL [(1193, 163, c_1193)]) [(4, 1193)] rLLh [] [] (none, fun _ => none, (0, 0)) = true := by decide +kernel
end
