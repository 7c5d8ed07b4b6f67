/-! LEVEL 2: means, checked one by one -/
set_option maxRecDepth 100000 in
theorem m_mk30 : m_mall 30 150 = true := by decide +kernel
set_option maxRecDepth 100000 in
theorem m_mk31 : m_mall 31 155 = true := by decide +kernel
set_option maxRecDepth 100000 in
theorem m_mk32 : m_mall 32 160 = true := by decide +kernel
set_option maxRecDepth 100000 in
theorem m_mk33 : m_mall 33 165 = true := by decide +kernel
set_option maxRecDepth 100000 in
theorem m_mk34 : m_mall 34 170 = true := by decide +kernel
set_option maxRecDepth 100000 in
theorem m_mk35 : m_mall 35 175 = true := by decide +kernel
set_option maxRecDepth 100000 in
theorem m_mk36 : m_mall 36 180 = true := by decide +kernel
