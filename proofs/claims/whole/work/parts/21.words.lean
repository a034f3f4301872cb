theorem aw_int : Cond.arrayClass .int ∈ gtb := gtb_of (tm 95 (by decide +kernel)) rfl
theorem nw_X0 : Cond.instantiable RX0 0 ∈ gtb := (gtb_of (tm 73 (by decide +kernel)) rfl)
theorem ni_X0 : Cond.initialized RX0 ∈ gtb := (gtb_of (tm 8 (by decide +kernel)) rfl)
theorem nw_X1 : Cond.instantiable RX1 0 ∈ gtb := (gtb_of (tm 45 (by decide +kernel)) rfl)
theorem ni_X1 : Cond.initialized RX1 ∈ gtb := (gtb_of (tm 4 (by decide +kernel)) rfl)
theorem nw_X2 : Cond.instantiable RX2 0 ∈ gtb := (gtb_of (tm 59 (by decide +kernel)) rfl)
theorem ni_X2 : Cond.initialized RX2 ∈ gtb := (gtb_of (tm 6 (by decide +kernel)) rfl)
theorem nw_X3 : Cond.instantiable RX3 0 ∈ gtb := (gtb_of (tm 66 (by decide +kernel)) rfl)
theorem ni_X3 : Cond.initialized RX3 ∈ gtb := (gtb_of (tm 7 (by decide +kernel)) rfl)
theorem nw_X4 : Cond.instantiable RX4 3 ∈ gtb := (gtb_of (tm 80 (by decide +kernel)) rfl)
theorem ni_X4 : Cond.initialized RX4 ∈ gtb := (gtb_of (tm 9 (by decide +kernel)) rfl)
theorem nw_X5 : Cond.instantiable RX5 6 ∈ gtb := (gtb_of (tm 175 (by decide +kernel)) rfl)
theorem ni_X5 : Cond.initialized RX5 ∈ gtb := (gtb_of (tm 11 (by decide +kernel)) rfl)
theorem nw_X6 : Cond.instantiable RX6 4 ∈ gtb := (gtb_of (tm 200 (by decide +kernel)) rfl)
theorem ni_X6 : Cond.initialized RX6 ∈ gtb := (gtb_of (tm 12 (by decide +kernel)) rfl)
theorem nw_X7 : Cond.instantiable RX7 18 ∈ gtb := (gtb_of (tm 97 (by decide +kernel)) rfl)
theorem ni_X7 : Cond.initialized RX7 ∈ gtb := (gtb_of (tm 10 (by decide +kernel)) rfl)
theorem nw_X8 : Cond.instantiable RX8 0 ∈ gtb := (gtb_of (tm 38 (by decide +kernel)) rfl)
theorem ni_X8 : Cond.initialized RX8 ∈ gtb := (gtb_of (tm 3 (by decide +kernel)) rfl)
theorem nw_X9 : Cond.instantiable RX9 0 ∈ gtb := (gtb_of (tm 52 (by decide +kernel)) rfl)
theorem ni_X9 : Cond.initialized RX9 ∈ gtb := (gtb_of (tm 5 (by decide +kernel)) rfl)
theorem nw_X10 : Cond.instantiable RX10 0 ∈ gtb := (gtb_of (tm 31 (by decide +kernel)) rfl)
theorem ni_X10 : Cond.initialized RX10 ∈ gtb := (gtb_of (tm 2 (by decide +kernel)) rfl)
theorem nw_X11 : Cond.instantiable RX11 10 ∈ gtb := (gtb_of (tm 22 (by decide +kernel)) rfl)
theorem ni_X11 : Cond.initialized RX11 ∈ gtb := (gtb_of (tm 1 (by decide +kernel)) rfl)
theorem nw_X12 : Cond.instantiable RX12 25 ∈ gtb := (gtb_of (tm 871 (by decide +kernel)) rfl)
theorem ni_X12 : Cond.initialized RX12 ∈ gtb := (gtb_of (tm 13 (by decide +kernel)) rfl)
theorem cl_L_7 : Cond.classLink RL 7 "SweptRound" ∈ gtb := (gtb_of (tm 21 (by decide +kernel)) rfl)
theorem cl_X11_9 : Cond.classLink RX11 9 "SweptRound$YardKind" ∈ gtb := (gtb_of (tm 29 (by decide +kernel)) rfl)
theorem cl_X11_12 : Cond.classLink RX11 12 "SweptRound$SweptKind" ∈ gtb := (gtb_of (tm 37 (by decide +kernel)) rfl)
theorem cl_X11_15 : Cond.classLink RX11 15 "SweptRound$CoveredKind" ∈ gtb := (gtb_of (tm 44 (by decide +kernel)) rfl)
theorem cl_X11_18 : Cond.classLink RX11 18 "SweptRound$WaitedKind" ∈ gtb := (gtb_of (tm 51 (by decide +kernel)) rfl)
theorem cl_X11_21 : Cond.classLink RX11 21 "SweptRound$DoubledKind" ∈ gtb := (gtb_of (tm 58 (by decide +kernel)) rfl)
theorem cl_X11_24 : Cond.classLink RX11 24 "SweptRound$EmptyKind" ∈ gtb := (gtb_of (tm 65 (by decide +kernel)) rfl)
theorem cl_X11_27 : Cond.classLink RX11 27 "SweptRound$BlownKind" ∈ gtb := (gtb_of (tm 72 (by decide +kernel)) rfl)
theorem cl_X11_30 : Cond.classLink RX11 30 "SweptRound$Law" ∈ gtb := (gtb_of (tm 79 (by decide +kernel)) rfl)
theorem cl_X11_35 : Cond.classLink RX11 35 "SweptRound$Street" ∈ gtb := (gtb_of (tm 96 (by decide +kernel)) rfl)
theorem cl_X11_50 : Cond.classLink RX11 50 "SweptRound$Reader" ∈ gtb := (gtb_of (tm 174 (by decide +kernel)) rfl)
theorem cl_X11_57 : Cond.classLink RX11 57 "SweptRound$Speech" ∈ gtb := (gtb_of (tm 199 (by decide +kernel)) rfl)
theorem cl_X11_64 : Cond.classLink RX11 64 "[[I" ∈ gtb := (gtb_of (tm 223 (by decide +kernel)) rfl)
theorem cl_X5_41 : Cond.classLink RX5 41 "SweptRound$Law" ∈ gtb := (gtb_of (tm 554 (by decide +kernel)) rfl)
theorem cl_L_10 : Cond.classLink RL 10 "SweptRoundModel" ∈ gtb := (gtb_of (tm 870 (by decide +kernel)) rfl)
theorem ol_X11_3 : Cond.methodLink RX11 3 Lib.objectInit ∈ gtb := (gtb_of (tm 26 (by decide +kernel)) rfl)
theorem il_X11_11 : Cond.methodLinkNest RX11 11 yX10_init "SweptRound" ∈ lw_tbl ∧ Cond.instanceMethod yX10_init ∈ gtb ∧ yX10_init.name = "<init>" := ⟨(tm 32 (by decide +kernel)), (gtb_of (tm 33 (by decide +kernel)) rfl), rfl⟩
theorem il_X11_14 : Cond.methodLinkNest RX11 14 yX8_init "SweptRound" ∈ lw_tbl ∧ Cond.instanceMethod yX8_init ∈ gtb ∧ yX8_init.name = "<init>" := ⟨(tm 39 (by decide +kernel)), (gtb_of (tm 40 (by decide +kernel)) rfl), rfl⟩
theorem il_X11_17 : Cond.methodLinkNest RX11 17 yX1_init "SweptRound" ∈ lw_tbl ∧ Cond.instanceMethod yX1_init ∈ gtb ∧ yX1_init.name = "<init>" := ⟨(tm 46 (by decide +kernel)), (gtb_of (tm 47 (by decide +kernel)) rfl), rfl⟩
theorem il_X11_20 : Cond.methodLinkNest RX11 20 yX9_init "SweptRound" ∈ lw_tbl ∧ Cond.instanceMethod yX9_init ∈ gtb ∧ yX9_init.name = "<init>" := ⟨(tm 53 (by decide +kernel)), (gtb_of (tm 54 (by decide +kernel)) rfl), rfl⟩
theorem il_X11_23 : Cond.methodLinkNest RX11 23 yX2_init "SweptRound" ∈ lw_tbl ∧ Cond.instanceMethod yX2_init ∈ gtb ∧ yX2_init.name = "<init>" := ⟨(tm 60 (by decide +kernel)), (gtb_of (tm 61 (by decide +kernel)) rfl), rfl⟩
theorem il_X11_26 : Cond.methodLinkNest RX11 26 yX3_init "SweptRound" ∈ lw_tbl ∧ Cond.instanceMethod yX3_init ∈ gtb ∧ yX3_init.name = "<init>" := ⟨(tm 67 (by decide +kernel)), (gtb_of (tm 68 (by decide +kernel)) rfl), rfl⟩
theorem il_X11_29 : Cond.methodLinkNest RX11 29 yX0_init "SweptRound" ∈ lw_tbl ∧ Cond.instanceMethod yX0_init ∈ gtb ∧ yX0_init.name = "<init>" := ⟨(tm 74 (by decide +kernel)), (gtb_of (tm 75 (by decide +kernel)) rfl), rfl⟩
theorem il_X11_32 : Cond.methodLink RX11 32 yX4_init ∈ gtb ∧ Cond.instanceMethod yX4_init ∈ gtb ∧ yX4_init.name = "<init>" := ⟨(gtb_of (tm 81 (by decide +kernel)) rfl), (gtb_of (tm 82 (by decide +kernel)) rfl), rfl⟩
theorem il_X11_37 : Cond.methodLink RX11 37 yX7_init ∈ gtb ∧ Cond.instanceMethod yX7_init ∈ gtb ∧ yX7_init.name = "<init>" := ⟨(gtb_of (tm 98 (by decide +kernel)) rfl), (gtb_of (tm 99 (by decide +kernel)) rfl), rfl⟩
theorem il_X11_52 : Cond.methodLinkNest RX11 52 yX5_init "SweptRound" ∈ lw_tbl ∧ Cond.instanceMethod yX5_init ∈ gtb ∧ yX5_init.name = "<init>" := ⟨(tm 176 (by decide +kernel)), (gtb_of (tm 177 (by decide +kernel)) rfl), rfl⟩
theorem il_X11_59 : Cond.methodLinkNest RX11 59 yX6_init "SweptRound" ∈ lw_tbl ∧ Cond.instanceMethod yX6_init ∈ gtb ∧ yX6_init.name = "<init>" := ⟨(tm 201 (by decide +kernel)), (gtb_of (tm 202 (by decide +kernel)) rfl), rfl⟩
theorem il_X0_1 : Cond.methodLinkNest RX0 1 yX9_init "SweptRound" ∈ lw_tbl ∧ Cond.instanceMethod yX9_init ∈ gtb ∧ yX9_init.name = "<init>" := ⟨(tm 77 (by decide +kernel)), (gtb_of (tm 54 (by decide +kernel)) rfl), rfl⟩
theorem il_X1_1 : Cond.methodLinkNest RX1 1 yX10_init "SweptRound" ∈ lw_tbl ∧ Cond.instanceMethod yX10_init ∈ gtb ∧ yX10_init.name = "<init>" := ⟨(tm 49 (by decide +kernel)), (gtb_of (tm 33 (by decide +kernel)) rfl), rfl⟩
theorem il_X2_1 : Cond.methodLinkNest RX2 1 yX8_init "SweptRound" ∈ lw_tbl ∧ Cond.instanceMethod yX8_init ∈ gtb ∧ yX8_init.name = "<init>" := ⟨(tm 63 (by decide +kernel)), (gtb_of (tm 40 (by decide +kernel)) rfl), rfl⟩
theorem il_X3_1 : Cond.methodLinkNest RX3 1 yX1_init "SweptRound" ∈ lw_tbl ∧ Cond.instanceMethod yX1_init ∈ gtb ∧ yX1_init.name = "<init>" := ⟨(tm 70 (by decide +kernel)), (gtb_of (tm 47 (by decide +kernel)) rfl), rfl⟩
theorem ol_X4_3 : Cond.methodLink RX4 3 Lib.objectInit ∈ gtb := (gtb_of (tm 84 (by decide +kernel)) rfl)
theorem ol_X5_3 : Cond.methodLink RX5 3 Lib.objectInit ∈ gtb := (gtb_of (tm 179 (by decide +kernel)) rfl)
theorem il_X5_43 : Cond.methodLink RX5 43 yX4_init ∈ gtb ∧ Cond.instanceMethod yX4_init ∈ gtb ∧ yX4_init.name = "<init>" := ⟨(gtb_of (tm 555 (by decide +kernel)) rfl), (gtb_of (tm 82 (by decide +kernel)) rfl), rfl⟩
theorem ol_X6_3 : Cond.methodLink RX6 3 Lib.objectInit ∈ gtb := (gtb_of (tm 204 (by decide +kernel)) rfl)
theorem ol_X7_3 : Cond.methodLink RX7 3 Lib.objectInit ∈ gtb := (gtb_of (tm 101 (by decide +kernel)) rfl)
theorem il_X8_1 : Cond.methodLinkNest RX8 1 yX10_init "SweptRound" ∈ lw_tbl ∧ Cond.instanceMethod yX10_init ∈ gtb ∧ yX10_init.name = "<init>" := ⟨(tm 42 (by decide +kernel)), (gtb_of (tm 33 (by decide +kernel)) rfl), rfl⟩
theorem il_X9_1 : Cond.methodLinkNest RX9 1 yX10_init "SweptRound" ∈ lw_tbl ∧ Cond.instanceMethod yX10_init ∈ gtb ∧ yX10_init.name = "<init>" := ⟨(tm 56 (by decide +kernel)), (gtb_of (tm 33 (by decide +kernel)) rfl), rfl⟩
theorem ol_X10_1 : Cond.methodLink RX10 1 Lib.objectInit ∈ gtb := (gtb_of (tm 35 (by decide +kernel)) rfl)
theorem il_L_9 : Cond.methodLink RL 9 yX11_init ∈ gtb ∧ Cond.instanceMethod yX11_init ∈ gtb ∧ yX11_init.name = "<init>" := ⟨(gtb_of (tm 23 (by decide +kernel)) rfl), (gtb_of (tm 24 (by decide +kernel)) rfl), rfl⟩
theorem il_L_12 : Cond.methodLink RL 12 yX12_init ∈ gtb ∧ Cond.instanceMethod yX12_init ∈ gtb ∧ yX12_init.name = "<init>" := ⟨(gtb_of (tm 872 (by decide +kernel)) rfl), (gtb_of (tm 873 (by decide +kernel)) rfl), rfl⟩
theorem ol_X12_1 : Cond.methodLink RX12 1 Lib.objectInit ∈ gtb := (gtb_of (tm 875 (by decide +kernel)) rfl)
theorem oi_1 : Cond.instanceMethod Lib.objectInit ∈ gtb := (gtb_of (tm 27 (by decide +kernel)) rfl)
theorem oi_2 : Cond.code Lib.objectInit ⟨#[0xb1]⟩ 1 none ∈ gtb := (gtb_of (tm 28 (by decide +kernel)) rfl)
