/-! the law's beginning: what the tables and the start say -/
set_option maxRecDepth 20000 in
theorem wn_1 : Cond.instantiable RX4 6 ∈ lw_tbl := m_1 (List.mem_of_getElem? (i := 11) rfl)
set_option maxRecDepth 20000 in
theorem wn_2 : Cond.instanceMethod yX4_init ∈ lw_tbl := m_1 (List.mem_of_getElem? (i := 13) rfl)
set_option maxRecDepth 20000 in
theorem wn_3 : Cond.laysStatic "GrooveTurns" "FIRST_SETTINGS" "[I" ∈ lw_tbl := m_1 (List.mem_of_getElem? (i := 25) rfl)
set_option maxRecDepth 20000 in
theorem wn_4 : Cond.laysStatic "GrooveTurns" "LOWEST_SETTINGS" "[I" ∈ lw_tbl := m_1 (List.mem_of_getElem? (i := 151) rfl)
set_option maxRecDepth 20000 in
theorem wn_5 : Cond.laysStatic "GrooveTurns" "HIGHEST_SETTINGS" "[I" ∈ lw_tbl := m_1 (List.mem_of_getElem? (i := 156) rfl)
set_option maxRecDepth 20000 in
theorem wn_6 : Cond.arrayOver (.object RX0) ∈ lw_tbl := m_1 (List.mem_of_getElem? (i := 114) rfl)
set_option maxRecDepth 20000 in
theorem wn_7 : Cond.instantiable RX5 14 ∈ lw_tbl := m_3 (List.mem_of_getElem? (i := 12) rfl)
set_option maxRecDepth 20000 in
theorem wn_8 : Cond.instanceMethod yX5_init ∈ lw_tbl := m_3 (List.mem_of_getElem? (i := 14) rfl)
