set_option maxRecDepth 100000 in
theorem am_okc70_0 : am_L70_0.all (fun ch => ch.all (fun p => am_ok am_d70 p.1 p.2)) = true := by decide +kernel
set_option maxRecDepth 100000 in
theorem am_okd70 : am_okd am_d70 = true := by decide +kernel
theorem am_ok70 : am_okm am_d70 = true := am_okmk am_okd70 am_okc70_0
set_option maxRecDepth 100000 in
theorem am_okc71_0 : am_L71_0.all (fun ch => ch.all (fun p => am_ok am_d71 p.1 p.2)) = true := by decide +kernel
set_option maxRecDepth 100000 in
theorem am_okd71 : am_okd am_d71 = true := by decide +kernel
theorem am_ok71 : am_okm am_d71 = true := am_okmk am_okd71 am_okc71_0
set_option maxRecDepth 100000 in
theorem am_okc72_0 : am_L72_0.all (fun ch => ch.all (fun p => am_ok am_d72 p.1 p.2)) = true := by decide +kernel
set_option maxRecDepth 100000 in
theorem am_okd72 : am_okd am_d72 = true := by decide +kernel
theorem am_ok72 : am_okm am_d72 = true := am_okmk am_okd72 am_okc72_0
set_option maxRecDepth 100000 in
theorem am_okc73_0 : am_L73_0.all (fun ch => ch.all (fun p => am_ok am_d73 p.1 p.2)) = true := by decide +kernel
set_option maxRecDepth 100000 in
theorem am_okd73 : am_okd am_d73 = true := by decide +kernel
theorem am_ok73 : am_okm am_d73 = true := am_okmk am_okd73 am_okc73_0
set_option maxRecDepth 100000 in
theorem am_okc74_0 : am_L74_0.all (fun ch => ch.all (fun p => am_ok am_d74 p.1 p.2)) = true := by decide +kernel
set_option maxRecDepth 100000 in
theorem am_okd74 : am_okd am_d74 = true := by decide +kernel
theorem am_ok74 : am_okm am_d74 = true := am_okmk am_okd74 am_okc74_0
set_option maxRecDepth 100000 in
theorem am_okc75_0 : am_L75_0.all (fun ch => ch.all (fun p => am_ok am_d75 p.1 p.2)) = true := by decide +kernel
set_option maxRecDepth 100000 in
theorem am_okd75 : am_okd am_d75 = true := by decide +kernel
theorem am_ok75 : am_okm am_d75 = true := am_okmk am_okd75 am_okc75_0
set_option maxRecDepth 100000 in
theorem am_okc76_0 : am_L76_0.all (fun ch => ch.all (fun p => am_ok am_d76 p.1 p.2)) = true := by decide +kernel
set_option maxRecDepth 100000 in
theorem am_okd76 : am_okd am_d76 = true := by decide +kernel
theorem am_ok76 : am_okm am_d76 = true := am_okmk am_okd76 am_okc76_0
set_option maxRecDepth 100000 in
theorem am_okc77_0 : am_L77_0.all (fun ch => ch.all (fun p => am_ok am_d77 p.1 p.2)) = true := by decide +kernel
set_option maxRecDepth 100000 in
theorem am_okd77 : am_okd am_d77 = true := by decide +kernel
theorem am_ok77 : am_okm am_d77 = true := am_okmk am_okd77 am_okc77_0
set_option maxRecDepth 100000 in
theorem am_okc78_0 : am_L78_0.all (fun ch => ch.all (fun p => am_ok am_d78 p.1 p.2)) = true := by decide +kernel
set_option maxRecDepth 100000 in
theorem am_okd78 : am_okd am_d78 = true := by decide +kernel
theorem am_ok78 : am_okm am_d78 = true := am_okmk am_okd78 am_okc78_0
set_option maxRecDepth 100000 in
theorem am_okc79_0 : am_L79_0.all (fun ch => ch.all (fun p => am_ok am_d79 p.1 p.2)) = true := by decide +kernel
set_option maxRecDepth 100000 in
theorem am_okd79 : am_okd am_d79 = true := by decide +kernel
theorem am_ok79 : am_okm am_d79 = true := am_okmk am_okd79 am_okc79_0
set_option maxRecDepth 100000 in
theorem am_okc80_0 : am_L80_0.all (fun ch => ch.all (fun p => am_ok am_d80 p.1 p.2)) = true := by decide +kernel
set_option maxRecDepth 100000 in
theorem am_okd80 : am_okd am_d80 = true := by decide +kernel
theorem am_ok80 : am_okm am_d80 = true := am_okmk am_okd80 am_okc80_0
set_option maxRecDepth 100000 in
theorem am_okc81_0 : am_L81_0.all (fun ch => ch.all (fun p => am_ok am_d81 p.1 p.2)) = true := by decide +kernel
set_option maxRecDepth 100000 in
theorem am_okd81 : am_okd am_d81 = true := by decide +kernel
theorem am_ok81 : am_okm am_d81 = true := am_okmk am_okd81 am_okc81_0
set_option maxRecDepth 100000 in
theorem am_okc82_0 : am_L82_0.all (fun ch => ch.all (fun p => am_ok am_d82 p.1 p.2)) = true := by decide +kernel
set_option maxRecDepth 100000 in
theorem am_okd82 : am_okd am_d82 = true := by decide +kernel
theorem am_ok82 : am_okm am_d82 = true := am_okmk am_okd82 am_okc82_0
set_option maxRecDepth 100000 in
theorem am_okc83_0 : am_L83_0.all (fun ch => ch.all (fun p => am_ok am_d83 p.1 p.2)) = true := by decide +kernel
set_option maxRecDepth 100000 in
theorem am_okc83_1 : am_L83_1.all (fun ch => ch.all (fun p => am_ok am_d83 p.1 p.2)) = true := by decide +kernel
set_option maxRecDepth 100000 in
theorem am_okd83 : am_okd am_d83 = true := by decide +kernel
theorem am_ok83 : am_okm am_d83 = true := am_okmk am_okd83 (am_alla am_okc83_0 am_okc83_1)
set_option maxRecDepth 100000 in
theorem am_okc84_0 : am_L84_0.all (fun ch => ch.all (fun p => am_ok am_d84 p.1 p.2)) = true := by decide +kernel
set_option maxRecDepth 100000 in
theorem am_okd84 : am_okd am_d84 = true := by decide +kernel
theorem am_ok84 : am_okm am_d84 = true := am_okmk am_okd84 am_okc84_0
set_option maxRecDepth 100000 in
theorem am_okc85_0 : am_L85_0.all (fun ch => ch.all (fun p => am_ok am_d85 p.1 p.2)) = true := by decide +kernel
set_option maxRecDepth 100000 in
theorem am_okd85 : am_okd am_d85 = true := by decide +kernel
theorem am_ok85 : am_okm am_d85 = true := am_okmk am_okd85 am_okc85_0
set_option maxRecDepth 100000 in
theorem am_okc86_0 : am_L86_0.all (fun ch => ch.all (fun p => am_ok am_d86 p.1 p.2)) = true := by decide +kernel
set_option maxRecDepth 100000 in
theorem am_okd86 : am_okd am_d86 = true := by decide +kernel
theorem am_ok86 : am_okm am_d86 = true := am_okmk am_okd86 am_okc86_0
set_option maxRecDepth 100000 in
theorem am_okc87_0 : am_L87_0.all (fun ch => ch.all (fun p => am_ok am_d87 p.1 p.2)) = true := by decide +kernel
set_option maxRecDepth 100000 in
theorem am_okd87 : am_okd am_d87 = true := by decide +kernel
theorem am_ok87 : am_okm am_d87 = true := am_okmk am_okd87 am_okc87_0
set_option maxRecDepth 100000 in
theorem am_okc88_0 : am_L88_0.all (fun ch => ch.all (fun p => am_ok am_d88 p.1 p.2)) = true := by decide +kernel
set_option maxRecDepth 100000 in
theorem am_okd88 : am_okd am_d88 = true := by decide +kernel
theorem am_ok88 : am_okm am_d88 = true := am_okmk am_okd88 am_okc88_0
set_option maxRecDepth 100000 in
theorem am_okc89_0 : am_L89_0.all (fun ch => ch.all (fun p => am_ok am_d89 p.1 p.2)) = true := by decide +kernel
set_option maxRecDepth 100000 in
theorem am_okd89 : am_okd am_d89 = true := by decide +kernel
theorem am_ok89 : am_okm am_d89 = true := am_okmk am_okd89 am_okc89_0
set_option maxRecDepth 100000 in
theorem am_okc90_0 : am_L90_0.all (fun ch => ch.all (fun p => am_ok am_d90 p.1 p.2)) = true := by decide +kernel
set_option maxRecDepth 100000 in
theorem am_okd90 : am_okd am_d90 = true := by decide +kernel
theorem am_ok90 : am_okm am_d90 = true := am_okmk am_okd90 am_okc90_0
set_option maxRecDepth 100000 in
theorem am_okc91_0 : am_L91_0.all (fun ch => ch.all (fun p => am_ok am_d91 p.1 p.2)) = true := by decide +kernel
set_option maxRecDepth 100000 in
theorem am_okd91 : am_okd am_d91 = true := by decide +kernel
theorem am_ok91 : am_okm am_d91 = true := am_okmk am_okd91 am_okc91_0
set_option maxRecDepth 100000 in
theorem am_okc92_0 : am_L92_0.all (fun ch => ch.all (fun p => am_ok am_d92 p.1 p.2)) = true := by decide +kernel
set_option maxRecDepth 100000 in
theorem am_okd92 : am_okd am_d92 = true := by decide +kernel
theorem am_ok92 : am_okm am_d92 = true := am_okmk am_okd92 am_okc92_0
set_option maxRecDepth 100000 in
theorem am_okc93_0 : am_L93_0.all (fun ch => ch.all (fun p => am_ok am_d93 p.1 p.2)) = true := by decide +kernel
set_option maxRecDepth 100000 in
theorem am_okd93 : am_okd am_d93 = true := by decide +kernel
theorem am_ok93 : am_okm am_d93 = true := am_okmk am_okd93 am_okc93_0
set_option maxRecDepth 100000 in
theorem am_okc94_0 : am_L94_0.all (fun ch => ch.all (fun p => am_ok am_d94 p.1 p.2)) = true := by decide +kernel
set_option maxRecDepth 100000 in
theorem am_okd94 : am_okd am_d94 = true := by decide +kernel
theorem am_ok94 : am_okm am_d94 = true := am_okmk am_okd94 am_okc94_0
set_option maxRecDepth 100000 in
theorem am_okc95_0 : am_L95_0.all (fun ch => ch.all (fun p => am_ok am_d95 p.1 p.2)) = true := by decide +kernel
set_option maxRecDepth 100000 in
theorem am_okd95 : am_okd am_d95 = true := by decide +kernel
theorem am_ok95 : am_okm am_d95 = true := am_okmk am_okd95 am_okc95_0
set_option maxRecDepth 100000 in
theorem am_okc96_0 : am_L96_0.all (fun ch => ch.all (fun p => am_ok am_d96 p.1 p.2)) = true := by decide +kernel
set_option maxRecDepth 100000 in
theorem am_okd96 : am_okd am_d96 = true := by decide +kernel
theorem am_ok96 : am_okm am_d96 = true := am_okmk am_okd96 am_okc96_0
set_option maxRecDepth 100000 in
theorem am_okc97_0 : am_L97_0.all (fun ch => ch.all (fun p => am_ok am_d97 p.1 p.2)) = true := by decide +kernel
set_option maxRecDepth 100000 in
theorem am_okd97 : am_okd am_d97 = true := by decide +kernel
theorem am_ok97 : am_okm am_d97 = true := am_okmk am_okd97 am_okc97_0
set_option maxRecDepth 100000 in
theorem am_okc98_0 : am_L98_0.all (fun ch => ch.all (fun p => am_ok am_d98 p.1 p.2)) = true := by decide +kernel
set_option maxRecDepth 100000 in
theorem am_okd98 : am_okd am_d98 = true := by decide +kernel
theorem am_ok98 : am_okm am_d98 = true := am_okmk am_okd98 am_okc98_0
set_option maxRecDepth 100000 in
theorem am_okc99_0 : am_L99_0.all (fun ch => ch.all (fun p => am_ok am_d99 p.1 p.2)) = true := by decide +kernel
set_option maxRecDepth 100000 in
theorem am_okd99 : am_okd am_d99 = true := by decide +kernel
theorem am_ok99 : am_okm am_d99 = true := am_okmk am_okd99 am_okc99_0
set_option maxRecDepth 100000 in
theorem am_okc100_0 : am_L100_0.all (fun ch => ch.all (fun p => am_ok am_d100 p.1 p.2)) = true := by decide +kernel
set_option maxRecDepth 100000 in
theorem am_okd100 : am_okd am_d100 = true := by decide +kernel
theorem am_ok100 : am_okm am_d100 = true := am_okmk am_okd100 am_okc100_0
set_option maxRecDepth 100000 in
theorem am_okc101_0 : am_L101_0.all (fun ch => ch.all (fun p => am_ok am_d101 p.1 p.2)) = true := by decide +kernel
set_option maxRecDepth 100000 in
theorem am_okd101 : am_okd am_d101 = true := by decide +kernel
theorem am_ok101 : am_okm am_d101 = true := am_okmk am_okd101 am_okc101_0
set_option maxRecDepth 100000 in
theorem am_okc102_0 : am_L102_0.all (fun ch => ch.all (fun p => am_ok am_d102 p.1 p.2)) = true := by decide +kernel
set_option maxRecDepth 100000 in
theorem am_okd102 : am_okd am_d102 = true := by decide +kernel
theorem am_ok102 : am_okm am_d102 = true := am_okmk am_okd102 am_okc102_0
set_option maxRecDepth 100000 in
theorem am_okc103_0 : am_L103_0.all (fun ch => ch.all (fun p => am_ok am_d103 p.1 p.2)) = true := by decide +kernel
set_option maxRecDepth 100000 in
theorem am_okd103 : am_okd am_d103 = true := by decide +kernel
theorem am_ok103 : am_okm am_d103 = true := am_okmk am_okd103 am_okc103_0
set_option maxRecDepth 100000 in
theorem am_okc104_0 : am_L104_0.all (fun ch => ch.all (fun p => am_ok am_d104 p.1 p.2)) = true := by decide +kernel
set_option maxRecDepth 100000 in
theorem am_okd104 : am_okd am_d104 = true := by decide +kernel
theorem am_ok104 : am_okm am_d104 = true := am_okmk am_okd104 am_okc104_0
set_option maxRecDepth 100000 in
theorem am_okc105_0 : am_L105_0.all (fun ch => ch.all (fun p => am_ok am_d105 p.1 p.2)) = true := by decide +kernel
set_option maxRecDepth 100000 in
theorem am_okd105 : am_okd am_d105 = true := by decide +kernel
theorem am_ok105 : am_okm am_d105 = true := am_okmk am_okd105 am_okc105_0
set_option maxRecDepth 100000 in
theorem am_okc106_0 : am_L106_0.all (fun ch => ch.all (fun p => am_ok am_d106 p.1 p.2)) = true := by decide +kernel
set_option maxRecDepth 100000 in
theorem am_okd106 : am_okd am_d106 = true := by decide +kernel
theorem am_ok106 : am_okm am_d106 = true := am_okmk am_okd106 am_okc106_0
set_option maxRecDepth 100000 in
theorem am_okc107_0 : am_L107_0.all (fun ch => ch.all (fun p => am_ok am_d107 p.1 p.2)) = true := by decide +kernel
set_option maxRecDepth 100000 in
theorem am_okd107 : am_okd am_d107 = true := by decide +kernel
theorem am_ok107 : am_okm am_d107 = true := am_okmk am_okd107 am_okc107_0
set_option maxRecDepth 100000 in
theorem am_okc108_0 : am_L108_0.all (fun ch => ch.all (fun p => am_ok am_d108 p.1 p.2)) = true := by decide +kernel
set_option maxRecDepth 100000 in
theorem am_okd108 : am_okd am_d108 = true := by decide +kernel
theorem am_ok108 : am_okm am_d108 = true := am_okmk am_okd108 am_okc108_0
set_option maxRecDepth 100000 in
theorem am_okc109_0 : am_L109_0.all (fun ch => ch.all (fun p => am_ok am_d109 p.1 p.2)) = true := by decide +kernel
set_option maxRecDepth 100000 in
theorem am_okd109 : am_okd am_d109 = true := by decide +kernel
theorem am_ok109 : am_okm am_d109 = true := am_okmk am_okd109 am_okc109_0
set_option maxRecDepth 100000 in
theorem am_okc110_0 : am_L110_0.all (fun ch => ch.all (fun p => am_ok am_d110 p.1 p.2)) = true := by decide +kernel
set_option maxRecDepth 100000 in
theorem am_okd110 : am_okd am_d110 = true := by decide +kernel
theorem am_ok110 : am_okm am_d110 = true := am_okmk am_okd110 am_okc110_0
