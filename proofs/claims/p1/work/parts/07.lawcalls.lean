set_option maxRecDepth 100000 in
theorem gw_X10_init : GoodIn lw_tbl (wsX10_init) := goodIn_sub (by decide +kernel) (by decide +kernel)
set_option maxRecDepth 100000 in
theorem gw_X12_init : GoodIn lw_tbl (wsX12_init) := goodIn_sub (by decide +kernel) (by decide +kernel)
set_option maxRecDepth 100000 in
theorem gw_X10_feed : GoodIn lw_tbl (wsV RL 13 RX10 yX10_feed wp_X10_feed) := goodIn_sub (by decide +kernel) (by decide +kernel)
set_option maxRecDepth 100000 in
theorem gw_X12_feed : GoodIn lw_tbl (wsV RL 17 RX12 yX12_feed wp_X12_feed) := goodIn_sub (by decide +kernel) (by decide +kernel)
set_option maxRecDepth 100000 in
theorem gw_X10_end : GoodIn lw_tbl (wsV RL 18 RX10 yX10_end wp_X10_end) := goodIn_sub (by decide +kernel) (by decide +kernel)
set_option maxRecDepth 100000 in
theorem gw_X12_end : GoodIn lw_tbl (wsV RL 22 RX12 yX12_end wp_X12_end) := goodIn_sub (by decide +kernel) (by decide +kernel)
set_option maxRecDepth 100000 in
theorem gw_X10_input : GoodIn lw_tbl (wsV RL 23 RX10 yX10_input wp_X10_input) := goodIn_sub (by decide +kernel) (by decide +kernel)
set_option maxRecDepth 100000 in
theorem gw_X12_input : GoodIn lw_tbl (wsV RL 26 RX12 yX12_input wp_X12_input) := goodIn_sub (by decide +kernel) (by decide +kernel)
set_option maxRecDepth 100000 in
theorem gw_X10_clear : GoodIn lw_tbl (wsV RL 27 RX10 yX10_clear wp_X10_clear) := goodIn_sub (by decide +kernel) (by decide +kernel)
set_option maxRecDepth 100000 in
theorem gw_X12_clear : GoodIn lw_tbl (wsV RL 30 RX12 yX12_clear wp_X12_clear) := goodIn_sub (by decide +kernel) (by decide +kernel)
set_option maxRecDepth 100000 in
theorem gw_X10_start : GoodIn lw_tbl (wsV RL 31 RX10 yX10_start wp_X10_start) := goodIn_sub (by decide +kernel) (by decide +kernel)
set_option maxRecDepth 100000 in
theorem gw_X12_start : GoodIn lw_tbl (wsV RL 35 RX12 yX12_start wp_X12_start) := goodIn_sub (by decide +kernel) (by decide +kernel)
set_option maxRecDepth 100000 in
theorem gw_X10_run : GoodIn lw_tbl (wsV RL 36 RX10 yX10_run wp_X10_run) := goodIn_sub (by decide +kernel) (by decide +kernel)
set_option maxRecDepth 100000 in
theorem gw_X12_run : GoodIn lw_tbl (wsV RL 39 RX12 yX12_run wp_X12_run) := goodIn_sub (by decide +kernel) (by decide +kernel)
set_option maxRecDepth 100000 in
theorem gw_X10_state : GoodIn lw_tbl (wsV RL 40 RX10 yX10_state wp_X10_state) := goodIn_sub (by decide +kernel) (by decide +kernel)
set_option maxRecDepth 100000 in
theorem gw_X12_state : GoodIn lw_tbl (wsV RL 44 RX12 yX12_state wp_X12_state) := goodIn_sub (by decide +kernel) (by decide +kernel)
set_option maxRecDepth 100000 in
theorem gw_X10_count : GoodIn lw_tbl (wsV RL 45 RX10 yX10_count wp_X10_count) := goodIn_sub (by decide +kernel) (by decide +kernel)
set_option maxRecDepth 100000 in
theorem gw_X12_count : GoodIn lw_tbl (wsV RL 49 RX12 yX12_count wp_X12_count) := goodIn_sub (by decide +kernel) (by decide +kernel)
set_option maxRecDepth 100000 in
theorem gw_X10_out : GoodIn lw_tbl (wsV RL 50 RX10 yX10_out wp_X10_out) := goodIn_sub (by decide +kernel) (by decide +kernel)
set_option maxRecDepth 100000 in
theorem gw_X12_out : GoodIn lw_tbl (wsV RL 53 RX12 yX12_out wp_X12_out) := goodIn_sub (by decide +kernel) (by decide +kernel)
set_option maxRecDepth 100000 in
theorem gw_X10_frame : GoodIn lw_tbl (wsV RL 54 RX10 yX10_frame wp_X10_frame) := goodIn_sub (by decide +kernel) (by decide +kernel)
set_option maxRecDepth 100000 in
theorem gw_X12_frame : GoodIn lw_tbl (wsV RL 58 RX12 yX12_frame wp_X12_frame) := goodIn_sub (by decide +kernel) (by decide +kernel)
set_option maxRecDepth 100000 in
theorem gw_X10_value : GoodIn lw_tbl (wsV RL 61 RX10 yX10_value wp_X10_value) := goodIn_sub (by decide +kernel) (by decide +kernel)
set_option maxRecDepth 100000 in
theorem gw_X12_value_ : GoodIn lw_tbl (wsV RL 65 RX12 yX12_value_ wp_X12_value_) := goodIn_sub (by decide +kernel) (by decide +kernel)
set_option maxRecDepth 100000 in
theorem gw_X10_same : GoodIn lw_tbl (wsV RL 66 RX10 yX10_same wp_X10_same) := goodIn_sub (by decide +kernel) (by decide +kernel)
set_option maxRecDepth 100000 in
theorem gw_X12_same : GoodIn lw_tbl (wsV RL 69 RX12 yX12_same wp_X12_same) := goodIn_sub (by decide +kernel) (by decide +kernel)
set_option maxRecDepth 100000 in
theorem gw_X10_told : GoodIn lw_tbl (wsV RL 70 RX10 yX10_told wp_X10_told) := goodIn_sub (by decide +kernel) (by decide +kernel)
set_option maxRecDepth 100000 in
theorem gw_X12_told : GoodIn lw_tbl (wsV RL 73 RX12 yX12_told wp_X12_told) := goodIn_sub (by decide +kernel) (by decide +kernel)
set_option maxRecDepth 100000 in
theorem gw_X10_steady : GoodIn lw_tbl (wsV RL 74 RX10 yX10_steady wp_X10_steady) := goodIn_sub (by decide +kernel) (by decide +kernel)
set_option maxRecDepth 100000 in
theorem gw_X12_steady : GoodIn lw_tbl (wsV RL 78 RX12 yX12_steady wp_X12_steady) := goodIn_sub (by decide +kernel) (by decide +kernel)
set_option maxRecDepth 100000 in
theorem gw_X10_stands : GoodIn lw_tbl (wsV RL 79 RX10 yX10_stands wp_X10_stands) := goodIn_sub (by decide +kernel) (by decide +kernel)
set_option maxRecDepth 100000 in
theorem gw_X12_stands : GoodIn lw_tbl (wsV RL 83 RX12 yX12_stands wp_X12_stands) := goodIn_sub (by decide +kernel) (by decide +kernel)
