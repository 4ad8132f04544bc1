set_option maxRecDepth 100000 in
theorem am_okc0_0 : am_L0_0.all (fun ch => ch.all (fun p => am_ok am_d0 p.1 p.2)) = true := by decide +kernel
set_option maxRecDepth 100000 in
theorem am_okc0_1 : am_L0_1.all (fun ch => ch.all (fun p => am_ok am_d0 p.1 p.2)) = true := by decide +kernel
set_option maxRecDepth 100000 in
theorem am_okc0_2 : am_L0_2.all (fun ch => ch.all (fun p => am_ok am_d0 p.1 p.2)) = true := by decide +kernel
set_option maxRecDepth 100000 in
theorem am_okc0_3 : am_L0_3.all (fun ch => ch.all (fun p => am_ok am_d0 p.1 p.2)) = true := by decide +kernel
set_option maxRecDepth 100000 in
theorem am_okc0_4 : am_L0_4.all (fun ch => ch.all (fun p => am_ok am_d0 p.1 p.2)) = true := by decide +kernel
set_option maxRecDepth 100000 in
theorem am_okc0_5 : am_L0_5.all (fun ch => ch.all (fun p => am_ok am_d0 p.1 p.2)) = true := by decide +kernel
set_option maxRecDepth 100000 in
theorem am_okc0_6 : am_L0_6.all (fun ch => ch.all (fun p => am_ok am_d0 p.1 p.2)) = true := by decide +kernel
set_option maxRecDepth 100000 in
theorem am_okc0_7 : am_L0_7.all (fun ch => ch.all (fun p => am_ok am_d0 p.1 p.2)) = true := by decide +kernel
set_option maxRecDepth 100000 in
theorem am_okc0_8 : am_L0_8.all (fun ch => ch.all (fun p => am_ok am_d0 p.1 p.2)) = true := by decide +kernel
set_option maxRecDepth 100000 in
theorem am_okc0_9 : am_L0_9.all (fun ch => ch.all (fun p => am_ok am_d0 p.1 p.2)) = true := by decide +kernel
set_option maxRecDepth 100000 in
theorem am_okc0_10 : am_L0_10.all (fun ch => ch.all (fun p => am_ok am_d0 p.1 p.2)) = true := by decide +kernel
set_option maxRecDepth 100000 in
theorem am_okc0_11 : am_L0_11.all (fun ch => ch.all (fun p => am_ok am_d0 p.1 p.2)) = true := by decide +kernel
set_option maxRecDepth 100000 in
theorem am_okc0_12 : am_L0_12.all (fun ch => ch.all (fun p => am_ok am_d0 p.1 p.2)) = true := by decide +kernel
set_option maxRecDepth 100000 in
theorem am_okc0_13 : am_L0_13.all (fun ch => ch.all (fun p => am_ok am_d0 p.1 p.2)) = true := by decide +kernel
set_option maxRecDepth 100000 in
theorem am_okc0_14 : am_L0_14.all (fun ch => ch.all (fun p => am_ok am_d0 p.1 p.2)) = true := by decide +kernel
set_option maxRecDepth 100000 in
theorem am_okc0_15 : am_L0_15.all (fun ch => ch.all (fun p => am_ok am_d0 p.1 p.2)) = true := by decide +kernel
set_option maxRecDepth 100000 in
theorem am_okc0_16 : am_L0_16.all (fun ch => ch.all (fun p => am_ok am_d0 p.1 p.2)) = true := by decide +kernel
set_option maxRecDepth 100000 in
theorem am_okc0_17 : am_L0_17.all (fun ch => ch.all (fun p => am_ok am_d0 p.1 p.2)) = true := by decide +kernel
set_option maxRecDepth 100000 in
theorem am_okc0_18 : am_L0_18.all (fun ch => ch.all (fun p => am_ok am_d0 p.1 p.2)) = true := by decide +kernel
set_option maxRecDepth 100000 in
theorem am_okc0_19 : am_L0_19.all (fun ch => ch.all (fun p => am_ok am_d0 p.1 p.2)) = true := by decide +kernel
set_option maxRecDepth 100000 in
theorem am_okc0_20 : am_L0_20.all (fun ch => ch.all (fun p => am_ok am_d0 p.1 p.2)) = true := by decide +kernel
set_option maxRecDepth 100000 in
theorem am_okc0_21 : am_L0_21.all (fun ch => ch.all (fun p => am_ok am_d0 p.1 p.2)) = true := by decide +kernel
set_option maxRecDepth 100000 in
theorem am_okc0_22 : am_L0_22.all (fun ch => ch.all (fun p => am_ok am_d0 p.1 p.2)) = true := by decide +kernel
set_option maxRecDepth 100000 in
theorem am_okc0_23 : am_L0_23.all (fun ch => ch.all (fun p => am_ok am_d0 p.1 p.2)) = true := by decide +kernel
set_option maxRecDepth 100000 in
theorem am_okc0_24 : am_L0_24.all (fun ch => ch.all (fun p => am_ok am_d0 p.1 p.2)) = true := by decide +kernel
set_option maxRecDepth 100000 in
theorem am_okc0_25 : am_L0_25.all (fun ch => ch.all (fun p => am_ok am_d0 p.1 p.2)) = true := by decide +kernel
set_option maxRecDepth 100000 in
theorem am_okc0_26 : am_L0_26.all (fun ch => ch.all (fun p => am_ok am_d0 p.1 p.2)) = true := by decide +kernel
set_option maxRecDepth 100000 in
theorem am_okc0_27 : am_L0_27.all (fun ch => ch.all (fun p => am_ok am_d0 p.1 p.2)) = true := by decide +kernel
set_option maxRecDepth 100000 in
theorem am_okc0_28 : am_L0_28.all (fun ch => ch.all (fun p => am_ok am_d0 p.1 p.2)) = true := by decide +kernel
set_option maxRecDepth 100000 in
theorem am_okc0_29 : am_L0_29.all (fun ch => ch.all (fun p => am_ok am_d0 p.1 p.2)) = true := by decide +kernel
set_option maxRecDepth 100000 in
theorem am_okc0_30 : am_L0_30.all (fun ch => ch.all (fun p => am_ok am_d0 p.1 p.2)) = true := by decide +kernel
set_option maxRecDepth 100000 in
theorem am_okc0_31 : am_L0_31.all (fun ch => ch.all (fun p => am_ok am_d0 p.1 p.2)) = true := by decide +kernel
set_option maxRecDepth 100000 in
theorem am_okc0_32 : am_L0_32.all (fun ch => ch.all (fun p => am_ok am_d0 p.1 p.2)) = true := by decide +kernel
set_option maxRecDepth 100000 in
theorem am_okc0_33 : am_L0_33.all (fun ch => ch.all (fun p => am_ok am_d0 p.1 p.2)) = true := by decide +kernel
set_option maxRecDepth 100000 in
theorem am_okc0_34 : am_L0_34.all (fun ch => ch.all (fun p => am_ok am_d0 p.1 p.2)) = true := by decide +kernel
set_option maxRecDepth 100000 in
theorem am_okc0_35 : am_L0_35.all (fun ch => ch.all (fun p => am_ok am_d0 p.1 p.2)) = true := by decide +kernel
set_option maxRecDepth 100000 in
theorem am_okc0_36 : am_L0_36.all (fun ch => ch.all (fun p => am_ok am_d0 p.1 p.2)) = true := by decide +kernel
set_option maxRecDepth 100000 in
theorem am_okc0_37 : am_L0_37.all (fun ch => ch.all (fun p => am_ok am_d0 p.1 p.2)) = true := by decide +kernel
set_option maxRecDepth 100000 in
theorem am_okc0_38 : am_L0_38.all (fun ch => ch.all (fun p => am_ok am_d0 p.1 p.2)) = true := by decide +kernel
set_option maxRecDepth 100000 in
theorem am_okc0_39 : am_L0_39.all (fun ch => ch.all (fun p => am_ok am_d0 p.1 p.2)) = true := by decide +kernel
set_option maxRecDepth 100000 in
theorem am_okc0_40 : am_L0_40.all (fun ch => ch.all (fun p => am_ok am_d0 p.1 p.2)) = true := by decide +kernel
set_option maxRecDepth 100000 in
theorem am_okc0_41 : am_L0_41.all (fun ch => ch.all (fun p => am_ok am_d0 p.1 p.2)) = true := by decide +kernel
set_option maxRecDepth 100000 in
theorem am_okc0_42 : am_L0_42.all (fun ch => ch.all (fun p => am_ok am_d0 p.1 p.2)) = true := by decide +kernel
set_option maxRecDepth 100000 in
theorem am_okc0_43 : am_L0_43.all (fun ch => ch.all (fun p => am_ok am_d0 p.1 p.2)) = true := by decide +kernel
set_option maxRecDepth 100000 in
theorem am_okc0_44 : am_L0_44.all (fun ch => ch.all (fun p => am_ok am_d0 p.1 p.2)) = true := by decide +kernel
set_option maxRecDepth 100000 in
theorem am_okc0_45 : am_L0_45.all (fun ch => ch.all (fun p => am_ok am_d0 p.1 p.2)) = true := by decide +kernel
set_option maxRecDepth 100000 in
theorem am_okc0_46 : am_L0_46.all (fun ch => ch.all (fun p => am_ok am_d0 p.1 p.2)) = true := by decide +kernel
set_option maxRecDepth 100000 in
theorem am_okc0_47 : am_L0_47.all (fun ch => ch.all (fun p => am_ok am_d0 p.1 p.2)) = true := by decide +kernel
set_option maxRecDepth 100000 in
theorem am_okc0_48 : am_L0_48.all (fun ch => ch.all (fun p => am_ok am_d0 p.1 p.2)) = true := by decide +kernel
set_option maxRecDepth 100000 in
theorem am_okc0_49 : am_L0_49.all (fun ch => ch.all (fun p => am_ok am_d0 p.1 p.2)) = true := by decide +kernel
set_option maxRecDepth 100000 in
theorem am_okc0_50 : am_L0_50.all (fun ch => ch.all (fun p => am_ok am_d0 p.1 p.2)) = true := by decide +kernel
set_option maxRecDepth 100000 in
theorem am_okc0_51 : am_L0_51.all (fun ch => ch.all (fun p => am_ok am_d0 p.1 p.2)) = true := by decide +kernel
set_option maxRecDepth 100000 in
theorem am_okc0_52 : am_L0_52.all (fun ch => ch.all (fun p => am_ok am_d0 p.1 p.2)) = true := by decide +kernel
set_option maxRecDepth 100000 in
theorem am_okc0_53 : am_L0_53.all (fun ch => ch.all (fun p => am_ok am_d0 p.1 p.2)) = true := by decide +kernel
set_option maxRecDepth 100000 in
theorem am_okc0_54 : am_L0_54.all (fun ch => ch.all (fun p => am_ok am_d0 p.1 p.2)) = true := by decide +kernel
set_option maxRecDepth 100000 in
theorem am_okc0_55 : am_L0_55.all (fun ch => ch.all (fun p => am_ok am_d0 p.1 p.2)) = true := by decide +kernel
set_option maxRecDepth 100000 in
theorem am_okc0_56 : am_L0_56.all (fun ch => ch.all (fun p => am_ok am_d0 p.1 p.2)) = true := by decide +kernel
set_option maxRecDepth 100000 in
theorem am_okc0_57 : am_L0_57.all (fun ch => ch.all (fun p => am_ok am_d0 p.1 p.2)) = true := by decide +kernel
set_option maxRecDepth 100000 in
theorem am_okc0_58 : am_L0_58.all (fun ch => ch.all (fun p => am_ok am_d0 p.1 p.2)) = true := by decide +kernel
set_option maxRecDepth 100000 in
theorem am_okc0_59 : am_L0_59.all (fun ch => ch.all (fun p => am_ok am_d0 p.1 p.2)) = true := by decide +kernel
set_option maxRecDepth 100000 in
theorem am_okc0_60 : am_L0_60.all (fun ch => ch.all (fun p => am_ok am_d0 p.1 p.2)) = true := by decide +kernel
set_option maxRecDepth 100000 in
theorem am_okc0_61 : am_L0_61.all (fun ch => ch.all (fun p => am_ok am_d0 p.1 p.2)) = true := by decide +kernel
set_option maxRecDepth 100000 in
theorem am_okc0_62 : am_L0_62.all (fun ch => ch.all (fun p => am_ok am_d0 p.1 p.2)) = true := by decide +kernel
set_option maxRecDepth 100000 in
theorem am_okc0_63 : am_L0_63.all (fun ch => ch.all (fun p => am_ok am_d0 p.1 p.2)) = true := by decide +kernel
set_option maxRecDepth 100000 in
theorem am_okc0_64 : am_L0_64.all (fun ch => ch.all (fun p => am_ok am_d0 p.1 p.2)) = true := by decide +kernel
set_option maxRecDepth 100000 in
theorem am_okc0_65 : am_L0_65.all (fun ch => ch.all (fun p => am_ok am_d0 p.1 p.2)) = true := by decide +kernel
set_option maxRecDepth 100000 in
theorem am_okc0_66 : am_L0_66.all (fun ch => ch.all (fun p => am_ok am_d0 p.1 p.2)) = true := by decide +kernel
set_option maxRecDepth 100000 in
theorem am_okc0_67 : am_L0_67.all (fun ch => ch.all (fun p => am_ok am_d0 p.1 p.2)) = true := by decide +kernel
set_option maxRecDepth 100000 in
theorem am_okc0_68 : am_L0_68.all (fun ch => ch.all (fun p => am_ok am_d0 p.1 p.2)) = true := by decide +kernel
set_option maxRecDepth 100000 in
theorem am_okc0_69 : am_L0_69.all (fun ch => ch.all (fun p => am_ok am_d0 p.1 p.2)) = true := by decide +kernel
set_option maxRecDepth 100000 in
theorem am_okc0_70 : am_L0_70.all (fun ch => ch.all (fun p => am_ok am_d0 p.1 p.2)) = true := by decide +kernel
set_option maxRecDepth 100000 in
theorem am_okd0 : am_okd am_d0 = true := by decide +kernel
theorem am_ok0 : am_okm am_d0 = true := am_okmk am_okd0 (am_alla am_okc0_0 (am_alla am_okc0_1 (am_alla am_okc0_2 (am_alla am_okc0_3 (am_alla am_okc0_4 (am_alla am_okc0_5 (am_alla am_okc0_6 (am_alla am_okc0_7 (am_alla am_okc0_8 (am_alla am_okc0_9 (am_alla am_okc0_10 (am_alla am_okc0_11 (am_alla am_okc0_12 (am_alla am_okc0_13 (am_alla am_okc0_14 (am_alla am_okc0_15 (am_alla am_okc0_16 (am_alla am_okc0_17 (am_alla am_okc0_18 (am_alla am_okc0_19 (am_alla am_okc0_20 (am_alla am_okc0_21 (am_alla am_okc0_22 (am_alla am_okc0_23 (am_alla am_okc0_24 (am_alla am_okc0_25 (am_alla am_okc0_26 (am_alla am_okc0_27 (am_alla am_okc0_28 (am_alla am_okc0_29 (am_alla am_okc0_30 (am_alla am_okc0_31 (am_alla am_okc0_32 (am_alla am_okc0_33 (am_alla am_okc0_34 (am_alla am_okc0_35 (am_alla am_okc0_36 (am_alla am_okc0_37 (am_alla am_okc0_38 (am_alla am_okc0_39 (am_alla am_okc0_40 (am_alla am_okc0_41 (am_alla am_okc0_42 (am_alla am_okc0_43 (am_alla am_okc0_44 (am_alla am_okc0_45 (am_alla am_okc0_46 (am_alla am_okc0_47 (am_alla am_okc0_48 (am_alla am_okc0_49 (am_alla am_okc0_50 (am_alla am_okc0_51 (am_alla am_okc0_52 (am_alla am_okc0_53 (am_alla am_okc0_54 (am_alla am_okc0_55 (am_alla am_okc0_56 (am_alla am_okc0_57 (am_alla am_okc0_58 (am_alla am_okc0_59 (am_alla am_okc0_60 (am_alla am_okc0_61 (am_alla am_okc0_62 (am_alla am_okc0_63 (am_alla am_okc0_64 (am_alla am_okc0_65 (am_alla am_okc0_66 (am_alla am_okc0_67 (am_alla am_okc0_68 (am_alla am_okc0_69 am_okc0_70))))))))))))))))))))))))))))))))))))))))))))))))))))))))))))))))))))))
set_option maxRecDepth 100000 in
theorem am_okc1_0 : am_L1_0.all (fun ch => ch.all (fun p => am_ok am_d1 p.1 p.2)) = true := by decide +kernel
set_option maxRecDepth 100000 in
theorem am_okc1_1 : am_L1_1.all (fun ch => ch.all (fun p => am_ok am_d1 p.1 p.2)) = true := by decide +kernel
set_option maxRecDepth 100000 in
theorem am_okd1 : am_okd am_d1 = true := by decide +kernel
theorem am_ok1 : am_okm am_d1 = true := am_okmk am_okd1 (am_alla am_okc1_0 am_okc1_1)
set_option maxRecDepth 100000 in
theorem am_okc2_0 : am_L2_0.all (fun ch => ch.all (fun p => am_ok am_d2 p.1 p.2)) = true := by decide +kernel
set_option maxRecDepth 100000 in
theorem am_okd2 : am_okd am_d2 = true := by decide +kernel
theorem am_ok2 : am_okm am_d2 = true := am_okmk am_okd2 am_okc2_0
set_option maxRecDepth 100000 in
theorem am_okc3_0 : am_L3_0.all (fun ch => ch.all (fun p => am_ok am_d3 p.1 p.2)) = true := by decide +kernel
set_option maxRecDepth 100000 in
theorem am_okd3 : am_okd am_d3 = true := by decide +kernel
theorem am_ok3 : am_okm am_d3 = true := am_okmk am_okd3 am_okc3_0
set_option maxRecDepth 100000 in
theorem am_okc4_0 : am_L4_0.all (fun ch => ch.all (fun p => am_ok am_d4 p.1 p.2)) = true := by decide +kernel
set_option maxRecDepth 100000 in
theorem am_okd4 : am_okd am_d4 = true := by decide +kernel
theorem am_ok4 : am_okm am_d4 = true := am_okmk am_okd4 am_okc4_0
set_option maxRecDepth 100000 in
theorem am_okc5_0 : am_L5_0.all (fun ch => ch.all (fun p => am_ok am_d5 p.1 p.2)) = true := by decide +kernel
set_option maxRecDepth 100000 in
theorem am_okd5 : am_okd am_d5 = true := by decide +kernel
theorem am_ok5 : am_okm am_d5 = true := am_okmk am_okd5 am_okc5_0
set_option maxRecDepth 100000 in
theorem am_okc6_0 : am_L6_0.all (fun ch => ch.all (fun p => am_ok am_d6 p.1 p.2)) = true := by decide +kernel
set_option maxRecDepth 100000 in
theorem am_okd6 : am_okd am_d6 = true := by decide +kernel
theorem am_ok6 : am_okm am_d6 = true := am_okmk am_okd6 am_okc6_0
set_option maxRecDepth 100000 in
theorem am_okc7_0 : am_L7_0.all (fun ch => ch.all (fun p => am_ok am_d7 p.1 p.2)) = true := by decide +kernel
set_option maxRecDepth 100000 in
theorem am_okd7 : am_okd am_d7 = true := by decide +kernel
theorem am_ok7 : am_okm am_d7 = true := am_okmk am_okd7 am_okc7_0
set_option maxRecDepth 100000 in
theorem am_okc8_0 : am_L8_0.all (fun ch => ch.all (fun p => am_ok am_d8 p.1 p.2)) = true := by decide +kernel
set_option maxRecDepth 100000 in
theorem am_okd8 : am_okd am_d8 = true := by decide +kernel
theorem am_ok8 : am_okm am_d8 = true := am_okmk am_okd8 am_okc8_0
set_option maxRecDepth 100000 in
theorem am_okc9_0 : am_L9_0.all (fun ch => ch.all (fun p => am_ok am_d9 p.1 p.2)) = true := by decide +kernel
set_option maxRecDepth 100000 in
theorem am_okd9 : am_okd am_d9 = true := by decide +kernel
theorem am_ok9 : am_okm am_d9 = true := am_okmk am_okd9 am_okc9_0
set_option maxRecDepth 100000 in
theorem am_okc10_0 : am_L10_0.all (fun ch => ch.all (fun p => am_ok am_d10 p.1 p.2)) = true := by decide +kernel
set_option maxRecDepth 100000 in
theorem am_okd10 : am_okd am_d10 = true := by decide +kernel
theorem am_ok10 : am_okm am_d10 = true := am_okmk am_okd10 am_okc10_0
set_option maxRecDepth 100000 in
theorem am_okc11_0 : am_L11_0.all (fun ch => ch.all (fun p => am_ok am_d11 p.1 p.2)) = true := by decide +kernel
set_option maxRecDepth 100000 in
theorem am_okd11 : am_okd am_d11 = true := by decide +kernel
theorem am_ok11 : am_okm am_d11 = true := am_okmk am_okd11 am_okc11_0
set_option maxRecDepth 100000 in
theorem am_okc12_0 : am_L12_0.all (fun ch => ch.all (fun p => am_ok am_d12 p.1 p.2)) = true := by decide +kernel
set_option maxRecDepth 100000 in
theorem am_okd12 : am_okd am_d12 = true := by decide +kernel
theorem am_ok12 : am_okm am_d12 = true := am_okmk am_okd12 am_okc12_0
set_option maxRecDepth 100000 in
theorem am_okc13_0 : am_L13_0.all (fun ch => ch.all (fun p => am_ok am_d13 p.1 p.2)) = true := by decide +kernel
set_option maxRecDepth 100000 in
theorem am_okd13 : am_okd am_d13 = true := by decide +kernel
theorem am_ok13 : am_okm am_d13 = true := am_okmk am_okd13 am_okc13_0
set_option maxRecDepth 100000 in
theorem am_okc14_0 : am_L14_0.all (fun ch => ch.all (fun p => am_ok am_d14 p.1 p.2)) = true := by decide +kernel
set_option maxRecDepth 100000 in
theorem am_okd14 : am_okd am_d14 = true := by decide +kernel
theorem am_ok14 : am_okm am_d14 = true := am_okmk am_okd14 am_okc14_0
set_option maxRecDepth 100000 in
theorem am_okc15_0 : am_L15_0.all (fun ch => ch.all (fun p => am_ok am_d15 p.1 p.2)) = true := by decide +kernel
set_option maxRecDepth 100000 in
theorem am_okd15 : am_okd am_d15 = true := by decide +kernel
theorem am_ok15 : am_okm am_d15 = true := am_okmk am_okd15 am_okc15_0
set_option maxRecDepth 100000 in
theorem am_okc16_0 : am_L16_0.all (fun ch => ch.all (fun p => am_ok am_d16 p.1 p.2)) = true := by decide +kernel
set_option maxRecDepth 100000 in
theorem am_okd16 : am_okd am_d16 = true := by decide +kernel
theorem am_ok16 : am_okm am_d16 = true := am_okmk am_okd16 am_okc16_0
set_option maxRecDepth 100000 in
theorem am_okc17_0 : am_L17_0.all (fun ch => ch.all (fun p => am_ok am_d17 p.1 p.2)) = true := by decide +kernel
set_option maxRecDepth 100000 in
theorem am_okd17 : am_okd am_d17 = true := by decide +kernel
theorem am_ok17 : am_okm am_d17 = true := am_okmk am_okd17 am_okc17_0
set_option maxRecDepth 100000 in
theorem am_okc18_0 : am_L18_0.all (fun ch => ch.all (fun p => am_ok am_d18 p.1 p.2)) = true := by decide +kernel
set_option maxRecDepth 100000 in
theorem am_okd18 : am_okd am_d18 = true := by decide +kernel
theorem am_ok18 : am_okm am_d18 = true := am_okmk am_okd18 am_okc18_0
set_option maxRecDepth 100000 in
theorem am_okc19_0 : am_L19_0.all (fun ch => ch.all (fun p => am_ok am_d19 p.1 p.2)) = true := by decide +kernel
set_option maxRecDepth 100000 in
theorem am_okd19 : am_okd am_d19 = true := by decide +kernel
theorem am_ok19 : am_okm am_d19 = true := am_okmk am_okd19 am_okc19_0
