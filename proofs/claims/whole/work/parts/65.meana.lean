/-! LEVEL 2: means, checked one by one -/
set_option maxRecDepth 100000 in
theorem m_mk1 : m_mall 1 5 = true := by decide +kernel
set_option maxRecDepth 100000 in
theorem m_mk2 : m_mall 2 10 = true := by decide +kernel
set_option maxRecDepth 100000 in
theorem m_mk3 : m_mall 3 15 = true := by decide +kernel
set_option maxRecDepth 100000 in
theorem m_mk4 : m_mall 4 20 = true := by decide +kernel
set_option maxRecDepth 100000 in
theorem m_mk5 : m_mall 5 25 = true := by decide +kernel
set_option maxRecDepth 100000 in
theorem m_mk6 : m_mall 6 30 = true := by decide +kernel
set_option maxRecDepth 100000 in
theorem m_mk7 : m_mall 7 35 = true := by decide +kernel
set_option maxRecDepth 100000 in
theorem m_mk8 : m_mall 8 40 = true := by decide +kernel
set_option maxRecDepth 100000 in
theorem m_mk9 : m_mall 9 45 = true := by decide +kernel
set_option maxRecDepth 100000 in
theorem m_mk10 : m_mall 10 50 = true := by decide +kernel
set_option maxRecDepth 100000 in
theorem m_mk11 : m_mall 11 55 = true := by decide +kernel
set_option maxRecDepth 100000 in
theorem m_mk12 : m_mall 12 60 = true := by decide +kernel
set_option maxRecDepth 100000 in
theorem m_mk13 : m_mall 13 65 = true := by decide +kernel
set_option maxRecDepth 100000 in
theorem m_mk14 : m_mall 14 70 = true := by decide +kernel
set_option maxRecDepth 100000 in
theorem m_mk15 : m_mall 15 75 = true := by decide +kernel
set_option maxRecDepth 100000 in
theorem m_mk16 : m_mall 16 80 = true := by decide +kernel
set_option maxRecDepth 100000 in
theorem m_mk17 : m_mall 17 85 = true := by decide +kernel
set_option maxRecDepth 100000 in
theorem m_mk18 : m_mall 18 90 = true := by decide +kernel
set_option maxRecDepth 100000 in
theorem m_mk19 : m_mall 19 95 = true := by decide +kernel
set_option maxRecDepth 100000 in
theorem m_mk20 : m_mall 20 100 = true := by decide +kernel
