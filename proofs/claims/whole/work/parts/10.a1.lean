/-! the class's rows at known places (written by program: wip/whole/gen_rows.py) -/
theorem len_T_status : am_len (22 + 1) = 24 := by decide +kernel
theorem ra_T_status {σ : am_M} {i : Nat} (h : i < 24) : rAt σ 22 (nI i) = σ 23 i := rAt_i len_T_status h (by decide)
theorem rp_T_status {σ : am_M} {i : Nat} {v : Int32} (h : i < 24) : rPut σ 22 (nI i) v = am_up σ 23 i v := rPut_i len_T_status h (by decide)
theorem rc_T_status {σ : am_M} {i : Nat} {v : Int32} (h : i < 24) : rChg σ 22 (nI i) v = am_up σ 23 i (σ 23 i + v) := rChg_i len_T_status h (by decide)
theorem len_T_register : am_len (24 + 1) = 24 := by decide +kernel
theorem ra_T_register {σ : am_M} {i : Nat} (h : i < 24) : rAt σ 24 (nI i) = σ 25 i := rAt_i len_T_register h (by decide)
theorem rp_T_register {σ : am_M} {i : Nat} {v : Int32} (h : i < 24) : rPut σ 24 (nI i) v = am_up σ 25 i v := rPut_i len_T_register h (by decide)
theorem rc_T_register {σ : am_M} {i : Nat} {v : Int32} (h : i < 24) : rChg σ 24 (nI i) v = am_up σ 25 i (σ 25 i + v) := rChg_i len_T_register h (by decide)
theorem len_T_place : am_len (26 + 1) = 24 := by decide +kernel
theorem ra_T_place {σ : am_M} {i : Nat} (h : i < 24) : rAt σ 26 (nI i) = σ 27 i := rAt_i len_T_place h (by decide)
theorem rp_T_place {σ : am_M} {i : Nat} {v : Int32} (h : i < 24) : rPut σ 26 (nI i) v = am_up σ 27 i v := rPut_i len_T_place h (by decide)
theorem rc_T_place {σ : am_M} {i : Nat} {v : Int32} (h : i < 24) : rChg σ 26 (nI i) v = am_up σ 27 i (σ 27 i + v) := rChg_i len_T_place h (by decide)
theorem len_T_depth : am_len (28 + 1) = 24 := by decide +kernel
theorem ra_T_depth {σ : am_M} {i : Nat} (h : i < 24) : rAt σ 28 (nI i) = σ 29 i := rAt_i len_T_depth h (by decide)
theorem rp_T_depth {σ : am_M} {i : Nat} {v : Int32} (h : i < 24) : rPut σ 28 (nI i) v = am_up σ 29 i v := rPut_i len_T_depth h (by decide)
theorem rc_T_depth {σ : am_M} {i : Nat} {v : Int32} (h : i < 24) : rChg σ 28 (nI i) v = am_up σ 29 i (σ 29 i + v) := rChg_i len_T_depth h (by decide)
theorem len_T_home : am_len (30 + 1) = 24 := by decide +kernel
theorem ra_T_home {σ : am_M} {i : Nat} (h : i < 24) : rAt σ 30 (nI i) = σ 31 i := rAt_i len_T_home h (by decide)
theorem rp_T_home {σ : am_M} {i : Nat} {v : Int32} (h : i < 24) : rPut σ 30 (nI i) v = am_up σ 31 i v := rPut_i len_T_home h (by decide)
theorem rc_T_home {σ : am_M} {i : Nat} {v : Int32} (h : i < 24) : rChg σ 30 (nI i) v = am_up σ 31 i (σ 31 i + v) := rChg_i len_T_home h (by decide)
theorem len_T_choices : am_len (32 + 1) = 24 := by decide +kernel
theorem ra_T_choices {σ : am_M} {i : Nat} (h : i < 24) : rAt σ 32 (nI i) = σ 33 i := rAt_i len_T_choices h (by decide)
theorem rp_T_choices {σ : am_M} {i : Nat} {v : Int32} (h : i < 24) : rPut σ 32 (nI i) v = am_up σ 33 i v := rPut_i len_T_choices h (by decide)
theorem rc_T_choices {σ : am_M} {i : Nat} {v : Int32} (h : i < 24) : rChg σ 32 (nI i) v = am_up σ 33 i (σ 33 i + v) := rChg_i len_T_choices h (by decide)
theorem len_T_reason : am_len (34 + 1) = 24 := by decide +kernel
theorem ra_T_reason {σ : am_M} {i : Nat} (h : i < 24) : rAt σ 34 (nI i) = σ 35 i := rAt_i len_T_reason h (by decide)
theorem rp_T_reason {σ : am_M} {i : Nat} {v : Int32} (h : i < 24) : rPut σ 34 (nI i) v = am_up σ 35 i v := rPut_i len_T_reason h (by decide)
theorem rc_T_reason {σ : am_M} {i : Nat} {v : Int32} (h : i < 24) : rChg σ 34 (nI i) v = am_up σ 35 i (σ 35 i + v) := rChg_i len_T_reason h (by decide)
theorem len_T_target : am_len (36 + 1) = 24 := by decide +kernel
theorem ra_T_target {σ : am_M} {i : Nat} (h : i < 24) : rAt σ 36 (nI i) = σ 37 i := rAt_i len_T_target h (by decide)
theorem rp_T_target {σ : am_M} {i : Nat} {v : Int32} (h : i < 24) : rPut σ 36 (nI i) v = am_up σ 37 i v := rPut_i len_T_target h (by decide)
theorem rc_T_target {σ : am_M} {i : Nat} {v : Int32} (h : i < 24) : rChg σ 36 (nI i) v = am_up σ 37 i (σ 37 i + v) := rChg_i len_T_target h (by decide)
theorem len_T_failure : am_len (38 + 1) = 24 := by decide +kernel
theorem ra_T_failure {σ : am_M} {i : Nat} (h : i < 24) : rAt σ 38 (nI i) = σ 39 i := rAt_i len_T_failure h (by decide)
theorem rp_T_failure {σ : am_M} {i : Nat} {v : Int32} (h : i < 24) : rPut σ 38 (nI i) v = am_up σ 39 i v := rPut_i len_T_failure h (by decide)
theorem rc_T_failure {σ : am_M} {i : Nat} {v : Int32} (h : i < 24) : rChg σ 38 (nI i) v = am_up σ 39 i (σ 39 i + v) := rChg_i len_T_failure h (by decide)
theorem len_T_cleanupPlace : am_len (40 + 1) = 24 := by decide +kernel
theorem ra_T_cleanupPlace {σ : am_M} {i : Nat} (h : i < 24) : rAt σ 40 (nI i) = σ 41 i := rAt_i len_T_cleanupPlace h (by decide)
theorem rp_T_cleanupPlace {σ : am_M} {i : Nat} {v : Int32} (h : i < 24) : rPut σ 40 (nI i) v = am_up σ 41 i v := rPut_i len_T_cleanupPlace h (by decide)
theorem rc_T_cleanupPlace {σ : am_M} {i : Nat} {v : Int32} (h : i < 24) : rChg σ 40 (nI i) v = am_up σ 41 i (σ 41 i + v) := rChg_i len_T_cleanupPlace h (by decide)
theorem len_T_wakeTime : am_len (42 + 1) = 24 := by decide +kernel
theorem ra_T_wakeTime {σ : am_M} {i : Nat} (h : i < 24) : rAt σ 42 (nI i) = σ 43 i := rAt_i len_T_wakeTime h (by decide)
theorem rp_T_wakeTime {σ : am_M} {i : Nat} {v : Int32} (h : i < 24) : rPut σ 42 (nI i) v = am_up σ 43 i v := rPut_i len_T_wakeTime h (by decide)
theorem rc_T_wakeTime {σ : am_M} {i : Nat} {v : Int32} (h : i < 24) : rChg σ 42 (nI i) v = am_up σ 43 i (σ 43 i + v) := rChg_i len_T_wakeTime h (by decide)
theorem len_T_firstChannel : am_len (44 + 1) = 24 := by decide +kernel
theorem ra_T_firstChannel {σ : am_M} {i : Nat} (h : i < 24) : rAt σ 44 (nI i) = σ 45 i := rAt_i len_T_firstChannel h (by decide)
theorem rp_T_firstChannel {σ : am_M} {i : Nat} {v : Int32} (h : i < 24) : rPut σ 44 (nI i) v = am_up σ 45 i v := rPut_i len_T_firstChannel h (by decide)
theorem rc_T_firstChannel {σ : am_M} {i : Nat} {v : Int32} (h : i < 24) : rChg σ 44 (nI i) v = am_up σ 45 i (σ 45 i + v) := rChg_i len_T_firstChannel h (by decide)
theorem len_T_secondChannel : am_len (46 + 1) = 24 := by decide +kernel
theorem ra_T_secondChannel {σ : am_M} {i : Nat} (h : i < 24) : rAt σ 46 (nI i) = σ 47 i := rAt_i len_T_secondChannel h (by decide)
theorem rp_T_secondChannel {σ : am_M} {i : Nat} {v : Int32} (h : i < 24) : rPut σ 46 (nI i) v = am_up σ 47 i v := rPut_i len_T_secondChannel h (by decide)
theorem rc_T_secondChannel {σ : am_M} {i : Nat} {v : Int32} (h : i < 24) : rChg σ 46 (nI i) v = am_up σ 47 i (σ 47 i + v) := rChg_i len_T_secondChannel h (by decide)
theorem len_T_waitsSince : am_len (48 + 1) = 24 := by decide +kernel
theorem ra_T_waitsSince {σ : am_M} {i : Nat} (h : i < 24) : rAt σ 48 (nI i) = σ 49 i := rAt_i len_T_waitsSince h (by decide)
theorem rp_T_waitsSince {σ : am_M} {i : Nat} {v : Int32} (h : i < 24) : rPut σ 48 (nI i) v = am_up σ 49 i v := rPut_i len_T_waitsSince h (by decide)
theorem rc_T_waitsSince {σ : am_M} {i : Nat} {v : Int32} (h : i < 24) : rChg σ 48 (nI i) v = am_up σ 49 i (σ 49 i + v) := rChg_i len_T_waitsSince h (by decide)
theorem len_T_openScopes : am_len (50 + 1) = 120 := by decide +kernel
theorem ra_T_openScopes {σ : am_M} {i : Nat} (h : i < 120) : rAt σ 50 (nI i) = σ 51 i := rAt_i len_T_openScopes h (by decide)
theorem rp_T_openScopes {σ : am_M} {i : Nat} {v : Int32} (h : i < 120) : rPut σ 50 (nI i) v = am_up σ 51 i v := rPut_i len_T_openScopes h (by decide)
theorem rc_T_openScopes {σ : am_M} {i : Nat} {v : Int32} (h : i < 120) : rChg σ 50 (nI i) v = am_up σ 51 i (σ 51 i + v) := rChg_i len_T_openScopes h (by decide)
theorem len_T_code_len : am_len (53 + 1) = 24 := by decide +kernel
theorem ra_T_code_len {σ : am_M} {i : Nat} (h : i < 24) : rAt σ 53 (nI i) = σ 54 i := rAt_i len_T_code_len h (by decide)
theorem rp_T_code_len {σ : am_M} {i : Nat} {v : Int32} (h : i < 24) : rPut σ 53 (nI i) v = am_up σ 54 i v := rPut_i len_T_code_len h (by decide)
theorem rc_T_code_len {σ : am_M} {i : Nat} {v : Int32} (h : i < 24) : rChg σ 53 (nI i) v = am_up σ 54 i (σ 54 i + v) := rChg_i len_T_code_len h (by decide)
theorem len_T_code_cel : am_len (55 + 1) = 576 := by decide +kernel
theorem ra_T_code_cel {σ : am_M} {i : Nat} (h : i < 576) : rAt σ 55 (nI i) = σ 56 i := rAt_i len_T_code_cel h (by decide)
theorem rp_T_code_cel {σ : am_M} {i : Nat} {v : Int32} (h : i < 576) : rPut σ 55 (nI i) v = am_up σ 56 i v := rPut_i len_T_code_cel h (by decide)
theorem rc_T_code_cel {σ : am_M} {i : Nat} {v : Int32} (h : i < 576) : rChg σ 55 (nI i) v = am_up σ 56 i (σ 56 i + v) := rChg_i len_T_code_cel h (by decide)
theorem len_S_owner : am_len (58 + 1) = 60 := by decide +kernel
theorem ra_S_owner {σ : am_M} {i : Nat} (h : i < 60) : rAt σ 58 (nI i) = σ 59 i := rAt_i len_S_owner h (by decide)
theorem rp_S_owner {σ : am_M} {i : Nat} {v : Int32} (h : i < 60) : rPut σ 58 (nI i) v = am_up σ 59 i v := rPut_i len_S_owner h (by decide)
theorem rc_S_owner {σ : am_M} {i : Nat} {v : Int32} (h : i < 60) : rChg σ 58 (nI i) v = am_up σ 59 i (σ 59 i + v) := rChg_i len_S_owner h (by decide)
theorem len_S_level : am_len (60 + 1) = 60 := by decide +kernel
theorem ra_S_level {σ : am_M} {i : Nat} (h : i < 60) : rAt σ 60 (nI i) = σ 61 i := rAt_i len_S_level h (by decide)
theorem rp_S_level {σ : am_M} {i : Nat} {v : Int32} (h : i < 60) : rPut σ 60 (nI i) v = am_up σ 61 i v := rPut_i len_S_level h (by decide)
theorem rc_S_level {σ : am_M} {i : Nat} {v : Int32} (h : i < 60) : rChg σ 60 (nI i) v = am_up σ 61 i (σ 61 i + v) := rChg_i len_S_level h (by decide)
theorem len_S_kind : am_len (62 + 1) = 60 := by decide +kernel
theorem ra_S_kind {σ : am_M} {i : Nat} (h : i < 60) : rAt σ 62 (nI i) = σ 63 i := rAt_i len_S_kind h (by decide)
theorem rp_S_kind {σ : am_M} {i : Nat} {v : Int32} (h : i < 60) : rPut σ 62 (nI i) v = am_up σ 63 i v := rPut_i len_S_kind h (by decide)
theorem rc_S_kind {σ : am_M} {i : Nat} {v : Int32} (h : i < 60) : rChg σ 62 (nI i) v = am_up σ 63 i (σ 63 i + v) := rChg_i len_S_kind h (by decide)
theorem len_S_state : am_len (64 + 1) = 60 := by decide +kernel
theorem ra_S_state {σ : am_M} {i : Nat} (h : i < 60) : rAt σ 64 (nI i) = σ 65 i := rAt_i len_S_state h (by decide)
theorem rp_S_state {σ : am_M} {i : Nat} {v : Int32} (h : i < 60) : rPut σ 64 (nI i) v = am_up σ 65 i v := rPut_i len_S_state h (by decide)
theorem rc_S_state {σ : am_M} {i : Nat} {v : Int32} (h : i < 60) : rChg σ 64 (nI i) v = am_up σ 65 i (σ 65 i + v) := rChg_i len_S_state h (by decide)
theorem len_S_liveChildren : am_len (66 + 1) = 60 := by decide +kernel
theorem ra_S_liveChildren {σ : am_M} {i : Nat} (h : i < 60) : rAt σ 66 (nI i) = σ 67 i := rAt_i len_S_liveChildren h (by decide)
theorem rp_S_liveChildren {σ : am_M} {i : Nat} {v : Int32} (h : i < 60) : rPut σ 66 (nI i) v = am_up σ 67 i v := rPut_i len_S_liveChildren h (by decide)
theorem rc_S_liveChildren {σ : am_M} {i : Nat} {v : Int32} (h : i < 60) : rChg σ 66 (nI i) v = am_up σ 67 i (σ 67 i + v) := rChg_i len_S_liveChildren h (by decide)
theorem len_S_children : am_len (68 + 1) = 60 := by decide +kernel
theorem ra_S_children {σ : am_M} {i : Nat} (h : i < 60) : rAt σ 68 (nI i) = σ 69 i := rAt_i len_S_children h (by decide)
theorem rp_S_children {σ : am_M} {i : Nat} {v : Int32} (h : i < 60) : rPut σ 68 (nI i) v = am_up σ 69 i v := rPut_i len_S_children h (by decide)
theorem rc_S_children {σ : am_M} {i : Nat} {v : Int32} (h : i < 60) : rChg σ 68 (nI i) v = am_up σ 69 i (σ 69 i + v) := rChg_i len_S_children h (by decide)
theorem len_S_deadline : am_len (70 + 1) = 60 := by decide +kernel
theorem ra_S_deadline {σ : am_M} {i : Nat} (h : i < 60) : rAt σ 70 (nI i) = σ 71 i := rAt_i len_S_deadline h (by decide)
theorem rp_S_deadline {σ : am_M} {i : Nat} {v : Int32} (h : i < 60) : rPut σ 70 (nI i) v = am_up σ 71 i v := rPut_i len_S_deadline h (by decide)
theorem rc_S_deadline {σ : am_M} {i : Nat} {v : Int32} (h : i < 60) : rChg σ 70 (nI i) v = am_up σ 71 i (σ 71 i + v) := rChg_i len_S_deadline h (by decide)
theorem len_S_cleanupState : am_len (72 + 1) = 60 := by decide +kernel
theorem ra_S_cleanupState {σ : am_M} {i : Nat} (h : i < 60) : rAt σ 72 (nI i) = σ 73 i := rAt_i len_S_cleanupState h (by decide)
theorem rp_S_cleanupState {σ : am_M} {i : Nat} {v : Int32} (h : i < 60) : rPut σ 72 (nI i) v = am_up σ 73 i v := rPut_i len_S_cleanupState h (by decide)
theorem rc_S_cleanupState {σ : am_M} {i : Nat} {v : Int32} (h : i < 60) : rChg σ 72 (nI i) v = am_up σ 73 i (σ 73 i + v) := rChg_i len_S_cleanupState h (by decide)
theorem len_S_behind : am_len (74 + 1) = 60 := by decide +kernel
theorem ra_S_behind {σ : am_M} {i : Nat} (h : i < 60) : rAt σ 74 (nI i) = σ 75 i := rAt_i len_S_behind h (by decide)
theorem rp_S_behind {σ : am_M} {i : Nat} {v : Int32} (h : i < 60) : rPut σ 74 (nI i) v = am_up σ 75 i v := rPut_i len_S_behind h (by decide)
theorem rc_S_behind {σ : am_M} {i : Nat} {v : Int32} (h : i < 60) : rChg σ 74 (nI i) v = am_up σ 75 i (σ 75 i + v) := rChg_i len_S_behind h (by decide)
theorem len_S_cleanups_len : am_len (77 + 1) = 60 := by decide +kernel
theorem ra_S_cleanups_len {σ : am_M} {i : Nat} (h : i < 60) : rAt σ 77 (nI i) = σ 78 i := rAt_i len_S_cleanups_len h (by decide)
theorem rp_S_cleanups_len {σ : am_M} {i : Nat} {v : Int32} (h : i < 60) : rPut σ 77 (nI i) v = am_up σ 78 i v := rPut_i len_S_cleanups_len h (by decide)
theorem rc_S_cleanups_len {σ : am_M} {i : Nat} {v : Int32} (h : i < 60) : rChg σ 77 (nI i) v = am_up σ 78 i (σ 78 i + v) := rChg_i len_S_cleanups_len h (by decide)
theorem len_S_cleanups_cel : am_len (79 + 1) = 1440 := by decide +kernel
theorem ra_S_cleanups_cel {σ : am_M} {i : Nat} (h : i < 1440) : rAt σ 79 (nI i) = σ 80 i := rAt_i len_S_cleanups_cel h (by decide)
theorem rp_S_cleanups_cel {σ : am_M} {i : Nat} {v : Int32} (h : i < 1440) : rPut σ 79 (nI i) v = am_up σ 80 i v := rPut_i len_S_cleanups_cel h (by decide)
theorem rc_S_cleanups_cel {σ : am_M} {i : Nat} {v : Int32} (h : i < 1440) : rChg σ 79 (nI i) v = am_up σ 80 i (σ 80 i + v) := rChg_i len_S_cleanups_cel h (by decide)
theorem len_C_rooms : am_len (82 + 1) = 4 := by decide +kernel
theorem ra_C_rooms {σ : am_M} {i : Nat} (h : i < 4) : rAt σ 82 (nI i) = σ 83 i := rAt_i len_C_rooms h (by decide)
theorem rp_C_rooms {σ : am_M} {i : Nat} {v : Int32} (h : i < 4) : rPut σ 82 (nI i) v = am_up σ 83 i v := rPut_i len_C_rooms h (by decide)
theorem rc_C_rooms {σ : am_M} {i : Nat} {v : Int32} (h : i < 4) : rChg σ 82 (nI i) v = am_up σ 83 i (σ 83 i + v) := rChg_i len_C_rooms h (by decide)
theorem len_C_sizes : am_len (84 + 1) = 4 := by decide +kernel
theorem ra_C_sizes {σ : am_M} {i : Nat} (h : i < 4) : rAt σ 84 (nI i) = σ 85 i := rAt_i len_C_sizes h (by decide)
theorem rp_C_sizes {σ : am_M} {i : Nat} {v : Int32} (h : i < 4) : rPut σ 84 (nI i) v = am_up σ 85 i v := rPut_i len_C_sizes h (by decide)
theorem rc_C_sizes {σ : am_M} {i : Nat} {v : Int32} (h : i < 4) : rChg σ 84 (nI i) v = am_up σ 85 i (σ 85 i + v) := rChg_i len_C_sizes h (by decide)
theorem len_C_cells : am_len (86 + 1) = 12 := by decide +kernel
theorem ra_C_cells {σ : am_M} {i : Nat} (h : i < 12) : rAt σ 86 (nI i) = σ 87 i := rAt_i len_C_cells h (by decide)
theorem rp_C_cells {σ : am_M} {i : Nat} {v : Int32} (h : i < 12) : rPut σ 86 (nI i) v = am_up σ 87 i v := rPut_i len_C_cells h (by decide)
theorem rc_C_cells {σ : am_M} {i : Nat} {v : Int32} (h : i < 12) : rChg σ 86 (nI i) v = am_up σ 87 i (σ 87 i + v) := rChg_i len_C_cells h (by decide)
theorem len_W_counts : am_len (99 + 1) = 12 := by decide +kernel
theorem ra_W_counts {σ : am_M} {i : Nat} (h : i < 12) : rAt σ 99 (nI i) = σ 100 i := rAt_i len_W_counts h (by decide)
theorem rp_W_counts {σ : am_M} {i : Nat} {v : Int32} (h : i < 12) : rPut σ 99 (nI i) v = am_up σ 100 i v := rPut_i len_W_counts h (by decide)
theorem rc_W_counts {σ : am_M} {i : Nat} {v : Int32} (h : i < 12) : rChg σ 99 (nI i) v = am_up σ 100 i (σ 100 i + v) := rChg_i len_W_counts h (by decide)
theorem len_W_programs_len : am_len (17 + 1) = 6 := by decide +kernel
theorem ra_W_programs_len {σ : am_M} {i : Nat} (h : i < 6) : rAt σ 17 (nI i) = σ 18 i := rAt_i len_W_programs_len h (by decide)
theorem rp_W_programs_len {σ : am_M} {i : Nat} {v : Int32} (h : i < 6) : rPut σ 17 (nI i) v = am_up σ 18 i v := rPut_i len_W_programs_len h (by decide)
theorem rc_W_programs_len {σ : am_M} {i : Nat} {v : Int32} (h : i < 6) : rChg σ 17 (nI i) v = am_up σ 18 i (σ 18 i + v) := rChg_i len_W_programs_len h (by decide)
theorem len_W_programs_cel : am_len (19 + 1) = 144 := by decide +kernel
theorem ra_W_programs_cel {σ : am_M} {i : Nat} (h : i < 144) : rAt σ 19 (nI i) = σ 20 i := rAt_i len_W_programs_cel h (by decide)
theorem rp_W_programs_cel {σ : am_M} {i : Nat} {v : Int32} (h : i < 144) : rPut σ 19 (nI i) v = am_up σ 20 i v := rPut_i len_W_programs_cel h (by decide)
theorem rc_W_programs_cel {σ : am_M} {i : Nat} {v : Int32} (h : i < 144) : rChg σ 19 (nI i) v = am_up σ 20 i (σ 20 i + v) := rChg_i len_W_programs_cel h (by decide)
theorem len_R_drafts_len : am_len (5 + 1) = 6 := by decide +kernel
theorem ra_R_drafts_len {σ : am_M} {i : Nat} (h : i < 6) : rAt σ 5 (nI i) = σ 6 i := rAt_i len_R_drafts_len h (by decide)
theorem rp_R_drafts_len {σ : am_M} {i : Nat} {v : Int32} (h : i < 6) : rPut σ 5 (nI i) v = am_up σ 6 i v := rPut_i len_R_drafts_len h (by decide)
theorem rc_R_drafts_len {σ : am_M} {i : Nat} {v : Int32} (h : i < 6) : rChg σ 5 (nI i) v = am_up σ 6 i (σ 6 i + v) := rChg_i len_R_drafts_len h (by decide)
theorem len_R_drafts_cel : am_len (7 + 1) = 144 := by decide +kernel
theorem ra_R_drafts_cel {σ : am_M} {i : Nat} (h : i < 144) : rAt σ 7 (nI i) = σ 8 i := rAt_i len_R_drafts_cel h (by decide)
theorem rp_R_drafts_cel {σ : am_M} {i : Nat} {v : Int32} (h : i < 144) : rPut σ 7 (nI i) v = am_up σ 8 i v := rPut_i len_R_drafts_cel h (by decide)
theorem rc_R_drafts_cel {σ : am_M} {i : Nat} {v : Int32} (h : i < 144) : rChg σ 7 (nI i) v = am_up σ 8 i (σ 8 i + v) := rChg_i len_R_drafts_cel h (by decide)
theorem len_R_drafted : am_len (9 + 1) = 6 := by decide +kernel
theorem ra_R_drafted {σ : am_M} {i : Nat} (h : i < 6) : rAt σ 9 (nI i) = σ 10 i := rAt_i len_R_drafted h (by decide)
theorem rp_R_drafted {σ : am_M} {i : Nat} {v : Int32} (h : i < 6) : rPut σ 9 (nI i) v = am_up σ 10 i v := rPut_i len_R_drafted h (by decide)
theorem rc_R_drafted {σ : am_M} {i : Nat} {v : Int32} (h : i < 6) : rChg σ 9 (nI i) v = am_up σ 10 i (σ 10 i + v) := rChg_i len_R_drafted h (by decide)
theorem len_l_codes : am_len (89 + 1) = 660 := by decide +kernel
theorem la_codes {σ : am_M} {i n : Nat} (hn : σ 89 1 = nI n) (h : i < n) (h2 : n ≤ 660) : lAt σ 89 (nI i) = σ 90 i := lAt_i hn len_l_codes h (by omega) (by omega) (by decide)
theorem ld_codes {σ : am_M} {n : Nat} {v : Int32} (hn : σ 89 1 = nI n) (h : n < 660) : lAdd σ 89 v = am_up (am_up σ 90 n v) 89 1 (nI (n + 1)) := lAdd_i hn len_l_codes h (by decide)
theorem len_l_tasks : am_len (91 + 1) = 660 := by decide +kernel
theorem la_tasks {σ : am_M} {i n : Nat} (hn : σ 91 1 = nI n) (h : i < n) (h2 : n ≤ 660) : lAt σ 91 (nI i) = σ 92 i := lAt_i hn len_l_tasks h (by omega) (by omega) (by decide)
theorem ld_tasks {σ : am_M} {n : Nat} {v : Int32} (hn : σ 91 1 = nI n) (h : n < 660) : lAdd σ 91 v = am_up (am_up σ 92 n v) 91 1 (nI (n + 1)) := lAdd_i hn len_l_tasks h (by decide)
theorem len_l_causes : am_len (93 + 1) = 660 := by decide +kernel
theorem la_causes {σ : am_M} {i n : Nat} (hn : σ 93 1 = nI n) (h : i < n) (h2 : n ≤ 660) : lAt σ 93 (nI i) = σ 94 i := lAt_i hn len_l_causes h (by omega) (by omega) (by decide)
theorem ld_causes {σ : am_M} {n : Nat} {v : Int32} (hn : σ 93 1 = nI n) (h : n < 660) : lAdd σ 93 v = am_up (am_up σ 94 n v) 93 1 (nI (n + 1)) := lAdd_i hn len_l_causes h (by decide)
theorem len_l_queue : am_len (95 + 1) = 24 := by decide +kernel
theorem la_queue {σ : am_M} {i n : Nat} (hn : σ 95 1 = nI n) (h : i < n) (h2 : n ≤ 24) : lAt σ 95 (nI i) = σ 96 i := lAt_i hn len_l_queue h (by omega) (by omega) (by decide)
theorem ld_queue {σ : am_M} {n : Nat} {v : Int32} (hn : σ 95 1 = nI n) (h : n < 24) : lAdd σ 95 v = am_up (am_up σ 96 n v) 95 1 (nI (n + 1)) := lAdd_i hn len_l_queue h (by decide)
theorem len_l_endings : am_len (97 + 1) = 24 := by decide +kernel
theorem la_endings {σ : am_M} {i n : Nat} (hn : σ 97 1 = nI n) (h : i < n) (h2 : n ≤ 24) : lAt σ 97 (nI i) = σ 98 i := lAt_i hn len_l_endings h (by omega) (by omega) (by decide)
theorem ld_endings {σ : am_M} {n : Nat} {v : Int32} (hn : σ 97 1 = nI n) (h : n < 24) : lAdd σ 97 v = am_up (am_up σ 98 n v) 97 1 (nI (n + 1)) := lAdd_i hn len_l_endings h (by decide)
theorem len_l_text : am_len (1 + 1) = 60 := by decide +kernel
theorem la_text {σ : am_M} {i n : Nat} (hn : σ 1 1 = nI n) (h : i < n) (h2 : n ≤ 60) : lAt σ 1 (nI i) = σ 2 i := lAt_i hn len_l_text h (by omega) (by omega) (by decide)
theorem ld_text {σ : am_M} {n : Nat} {v : Int32} (hn : σ 1 1 = nI n) (h : n < 60) : lAdd σ 1 v = am_up (am_up σ 2 n v) 1 1 (nI (n + 1)) := lAdd_i hn len_l_text h (by decide)
theorem len_l_roomChannels : am_len (11 + 1) = 60 := by decide +kernel
theorem la_roomChannels {σ : am_M} {i n : Nat} (hn : σ 11 1 = nI n) (h : i < n) (h2 : n ≤ 60) : lAt σ 11 (nI i) = σ 12 i := lAt_i hn len_l_roomChannels h (by omega) (by omega) (by decide)
theorem ld_roomChannels {σ : am_M} {n : Nat} {v : Int32} (hn : σ 11 1 = nI n) (h : n < 60) : lAdd σ 11 v = am_up (am_up σ 12 n v) 11 1 (nI (n + 1)) := lAdd_i hn len_l_roomChannels h (by decide)
theorem len_l_roomSizes : am_len (13 + 1) = 60 := by decide +kernel
theorem la_roomSizes {σ : am_M} {i n : Nat} (hn : σ 13 1 = nI n) (h : i < n) (h2 : n ≤ 60) : lAt σ 13 (nI i) = σ 14 i := lAt_i hn len_l_roomSizes h (by omega) (by omega) (by decide)
theorem ld_roomSizes {σ : am_M} {n : Nat} {v : Int32} (hn : σ 13 1 = nI n) (h : n < 60) : lAdd σ 13 v = am_up (am_up σ 14 n v) 13 1 (nI (n + 1)) := lAdd_i hn len_l_roomSizes h (by decide)
