/-! TEXT (in work) -/
theorem op_text : q_opI q_Inv m_w_text m_r_text 0 := sorry
