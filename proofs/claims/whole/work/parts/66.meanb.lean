/-! LEVEL 2: means, checked one by one -/
set_option maxRecDepth 100000 in
theorem m_mk21 : m_mall 21 105 = true := by decide +kernel
set_option maxRecDepth 100000 in
theorem m_mk22 : m_mall 22 110 = true := by decide +kernel
set_option maxRecDepth 100000 in
theorem m_mk23 : m_mall 23 115 = true := by decide +kernel
set_option maxRecDepth 100000 in
theorem m_mk24 : m_mall 24 120 = true := by decide +kernel
set_option maxRecDepth 100000 in
theorem m_mk25 : m_mall 25 125 = true := by decide +kernel
set_option maxRecDepth 100000 in
theorem m_mk26 : m_mall 26 130 = true := by decide +kernel
set_option maxRecDepth 100000 in
theorem m_mk27 : m_mall 27 135 = true := by decide +kernel
set_option maxRecDepth 100000 in
theorem m_mk28 : m_mall 28 140 = true := by decide +kernel
set_option maxRecDepth 100000 in
theorem m_mk29 : m_mall 29 145 = true := by decide +kernel
