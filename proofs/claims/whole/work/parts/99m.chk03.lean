set_option maxRecDepth 100000 in
theorem am_okc111_0 : am_L111_0.all (fun ch => ch.all (fun p => am_ok am_d111 p.1 p.2)) = true := by decide +kernel
set_option maxRecDepth 100000 in
theorem am_okd111 : am_okd am_d111 = true := by decide +kernel
theorem am_ok111 : am_okm am_d111 = true := am_okmk am_okd111 am_okc111_0
set_option maxRecDepth 100000 in
theorem am_okc112_0 : am_L112_0.all (fun ch => ch.all (fun p => am_ok am_d112 p.1 p.2)) = true := by decide +kernel
set_option maxRecDepth 100000 in
theorem am_okd112 : am_okd am_d112 = true := by decide +kernel
theorem am_ok112 : am_okm am_d112 = true := am_okmk am_okd112 am_okc112_0
set_option maxRecDepth 100000 in
theorem am_okc113_0 : am_L113_0.all (fun ch => ch.all (fun p => am_ok am_d113 p.1 p.2)) = true := by decide +kernel
set_option maxRecDepth 100000 in
theorem am_okd113 : am_okd am_d113 = true := by decide +kernel
theorem am_ok113 : am_okm am_d113 = true := am_okmk am_okd113 am_okc113_0
set_option maxRecDepth 100000 in
theorem am_okc114_0 : am_L114_0.all (fun ch => ch.all (fun p => am_ok am_d114 p.1 p.2)) = true := by decide +kernel
set_option maxRecDepth 100000 in
theorem am_okd114 : am_okd am_d114 = true := by decide +kernel
theorem am_ok114 : am_okm am_d114 = true := am_okmk am_okd114 am_okc114_0
set_option maxRecDepth 100000 in
theorem am_okc115_0 : am_L115_0.all (fun ch => ch.all (fun p => am_ok am_d115 p.1 p.2)) = true := by decide +kernel
set_option maxRecDepth 100000 in
theorem am_okd115 : am_okd am_d115 = true := by decide +kernel
theorem am_ok115 : am_okm am_d115 = true := am_okmk am_okd115 am_okc115_0
set_option maxRecDepth 100000 in
theorem am_okc116_0 : am_L116_0.all (fun ch => ch.all (fun p => am_ok am_d116 p.1 p.2)) = true := by decide +kernel
set_option maxRecDepth 100000 in
theorem am_okd116 : am_okd am_d116 = true := by decide +kernel
theorem am_ok116 : am_okm am_d116 = true := am_okmk am_okd116 am_okc116_0
set_option maxRecDepth 100000 in
theorem am_okc117_0 : am_L117_0.all (fun ch => ch.all (fun p => am_ok am_d117 p.1 p.2)) = true := by decide +kernel
set_option maxRecDepth 100000 in
theorem am_okd117 : am_okd am_d117 = true := by decide +kernel
theorem am_ok117 : am_okm am_d117 = true := am_okmk am_okd117 am_okc117_0
set_option maxRecDepth 100000 in
theorem am_okc118_0 : am_L118_0.all (fun ch => ch.all (fun p => am_ok am_d118 p.1 p.2)) = true := by decide +kernel
set_option maxRecDepth 100000 in
theorem am_okd118 : am_okd am_d118 = true := by decide +kernel
theorem am_ok118 : am_okm am_d118 = true := am_okmk am_okd118 am_okc118_0
set_option maxRecDepth 100000 in
theorem am_okc119_0 : am_L119_0.all (fun ch => ch.all (fun p => am_ok am_d119 p.1 p.2)) = true := by decide +kernel
set_option maxRecDepth 100000 in
theorem am_okd119 : am_okd am_d119 = true := by decide +kernel
theorem am_ok119 : am_okm am_d119 = true := am_okmk am_okd119 am_okc119_0
set_option maxRecDepth 100000 in
theorem am_okc120_0 : am_L120_0.all (fun ch => ch.all (fun p => am_ok am_d120 p.1 p.2)) = true := by decide +kernel
set_option maxRecDepth 100000 in
theorem am_okd120 : am_okd am_d120 = true := by decide +kernel
theorem am_ok120 : am_okm am_d120 = true := am_okmk am_okd120 am_okc120_0
set_option maxRecDepth 100000 in
theorem am_okc121_0 : am_L121_0.all (fun ch => ch.all (fun p => am_ok am_d121 p.1 p.2)) = true := by decide +kernel
set_option maxRecDepth 100000 in
theorem am_okd121 : am_okd am_d121 = true := by decide +kernel
theorem am_ok121 : am_okm am_d121 = true := am_okmk am_okd121 am_okc121_0
set_option maxRecDepth 100000 in
theorem am_okc122_0 : am_L122_0.all (fun ch => ch.all (fun p => am_ok am_d122 p.1 p.2)) = true := by decide +kernel
set_option maxRecDepth 100000 in
theorem am_okd122 : am_okd am_d122 = true := by decide +kernel
theorem am_ok122 : am_okm am_d122 = true := am_okmk am_okd122 am_okc122_0
set_option maxRecDepth 100000 in
theorem am_okc123_0 : am_L123_0.all (fun ch => ch.all (fun p => am_ok am_d123 p.1 p.2)) = true := by decide +kernel
set_option maxRecDepth 100000 in
theorem am_okd123 : am_okd am_d123 = true := by decide +kernel
theorem am_ok123 : am_okm am_d123 = true := am_okmk am_okd123 am_okc123_0
set_option maxRecDepth 100000 in
theorem am_okc124_0 : am_L124_0.all (fun ch => ch.all (fun p => am_ok am_d124 p.1 p.2)) = true := by decide +kernel
set_option maxRecDepth 100000 in
theorem am_okd124 : am_okd am_d124 = true := by decide +kernel
theorem am_ok124 : am_okm am_d124 = true := am_okmk am_okd124 am_okc124_0
set_option maxRecDepth 100000 in
theorem am_okc125_0 : am_L125_0.all (fun ch => ch.all (fun p => am_ok am_d125 p.1 p.2)) = true := by decide +kernel
set_option maxRecDepth 100000 in
theorem am_okd125 : am_okd am_d125 = true := by decide +kernel
theorem am_ok125 : am_okm am_d125 = true := am_okmk am_okd125 am_okc125_0
set_option maxRecDepth 100000 in
theorem am_okc126_0 : am_L126_0.all (fun ch => ch.all (fun p => am_ok am_d126 p.1 p.2)) = true := by decide +kernel
set_option maxRecDepth 100000 in
theorem am_okd126 : am_okd am_d126 = true := by decide +kernel
theorem am_ok126 : am_okm am_d126 = true := am_okmk am_okd126 am_okc126_0
set_option maxRecDepth 100000 in
theorem am_okc127_0 : am_L127_0.all (fun ch => ch.all (fun p => am_ok am_d127 p.1 p.2)) = true := by decide +kernel
set_option maxRecDepth 100000 in
theorem am_okd127 : am_okd am_d127 = true := by decide +kernel
theorem am_ok127 : am_okm am_d127 = true := am_okmk am_okd127 am_okc127_0
set_option maxRecDepth 100000 in
theorem am_okc128_0 : am_L128_0.all (fun ch => ch.all (fun p => am_ok am_d128 p.1 p.2)) = true := by decide +kernel
set_option maxRecDepth 100000 in
theorem am_okd128 : am_okd am_d128 = true := by decide +kernel
theorem am_ok128 : am_okm am_d128 = true := am_okmk am_okd128 am_okc128_0
set_option maxRecDepth 100000 in
theorem am_okc129_0 : am_L129_0.all (fun ch => ch.all (fun p => am_ok am_d129 p.1 p.2)) = true := by decide +kernel
set_option maxRecDepth 100000 in
theorem am_okd129 : am_okd am_d129 = true := by decide +kernel
theorem am_ok129 : am_okm am_d129 = true := am_okmk am_okd129 am_okc129_0
set_option maxRecDepth 100000 in
theorem am_okc130_0 : am_L130_0.all (fun ch => ch.all (fun p => am_ok am_d130 p.1 p.2)) = true := by decide +kernel
set_option maxRecDepth 100000 in
theorem am_okd130 : am_okd am_d130 = true := by decide +kernel
theorem am_ok130 : am_okm am_d130 = true := am_okmk am_okd130 am_okc130_0
set_option maxRecDepth 100000 in
theorem am_okc131_0 : am_L131_0.all (fun ch => ch.all (fun p => am_ok am_d131 p.1 p.2)) = true := by decide +kernel
set_option maxRecDepth 100000 in
theorem am_okd131 : am_okd am_d131 = true := by decide +kernel
theorem am_ok131 : am_okm am_d131 = true := am_okmk am_okd131 am_okc131_0
set_option maxRecDepth 100000 in
theorem am_okc132_0 : am_L132_0.all (fun ch => ch.all (fun p => am_ok am_d132 p.1 p.2)) = true := by decide +kernel
set_option maxRecDepth 100000 in
theorem am_okd132 : am_okd am_d132 = true := by decide +kernel
theorem am_ok132 : am_okm am_d132 = true := am_okmk am_okd132 am_okc132_0
set_option maxRecDepth 100000 in
theorem am_okc133_0 : am_L133_0.all (fun ch => ch.all (fun p => am_ok am_d133 p.1 p.2)) = true := by decide +kernel
set_option maxRecDepth 100000 in
theorem am_okd133 : am_okd am_d133 = true := by decide +kernel
theorem am_ok133 : am_okm am_d133 = true := am_okmk am_okd133 am_okc133_0
set_option maxRecDepth 100000 in
theorem am_okc134_0 : am_L134_0.all (fun ch => ch.all (fun p => am_ok am_d134 p.1 p.2)) = true := by decide +kernel
set_option maxRecDepth 100000 in
theorem am_okd134 : am_okd am_d134 = true := by decide +kernel
theorem am_ok134 : am_okm am_d134 = true := am_okmk am_okd134 am_okc134_0
set_option maxRecDepth 100000 in
theorem am_okc135_0 : am_L135_0.all (fun ch => ch.all (fun p => am_ok am_d135 p.1 p.2)) = true := by decide +kernel
set_option maxRecDepth 100000 in
theorem am_okd135 : am_okd am_d135 = true := by decide +kernel
theorem am_ok135 : am_okm am_d135 = true := am_okmk am_okd135 am_okc135_0
set_option maxRecDepth 100000 in
theorem am_okc136_0 : am_L136_0.all (fun ch => ch.all (fun p => am_ok am_d136 p.1 p.2)) = true := by decide +kernel
set_option maxRecDepth 100000 in
theorem am_okd136 : am_okd am_d136 = true := by decide +kernel
theorem am_ok136 : am_okm am_d136 = true := am_okmk am_okd136 am_okc136_0
set_option maxRecDepth 100000 in
theorem am_okc137_0 : am_L137_0.all (fun ch => ch.all (fun p => am_ok am_d137 p.1 p.2)) = true := by decide +kernel
set_option maxRecDepth 100000 in
theorem am_okd137 : am_okd am_d137 = true := by decide +kernel
theorem am_ok137 : am_okm am_d137 = true := am_okmk am_okd137 am_okc137_0
set_option maxRecDepth 100000 in
theorem am_okc138_0 : am_L138_0.all (fun ch => ch.all (fun p => am_ok am_d138 p.1 p.2)) = true := by decide +kernel
set_option maxRecDepth 100000 in
theorem am_okd138 : am_okd am_d138 = true := by decide +kernel
theorem am_ok138 : am_okm am_d138 = true := am_okmk am_okd138 am_okc138_0
set_option maxRecDepth 100000 in
theorem am_okc139_0 : am_L139_0.all (fun ch => ch.all (fun p => am_ok am_d139 p.1 p.2)) = true := by decide +kernel
set_option maxRecDepth 100000 in
theorem am_okd139 : am_okd am_d139 = true := by decide +kernel
theorem am_ok139 : am_okm am_d139 = true := am_okmk am_okd139 am_okc139_0
set_option maxRecDepth 100000 in
theorem am_okc140_0 : am_L140_0.all (fun ch => ch.all (fun p => am_ok am_d140 p.1 p.2)) = true := by decide +kernel
set_option maxRecDepth 100000 in
theorem am_okd140 : am_okd am_d140 = true := by decide +kernel
theorem am_ok140 : am_okm am_d140 = true := am_okmk am_okd140 am_okc140_0
set_option maxRecDepth 100000 in
theorem am_okc141_0 : am_L141_0.all (fun ch => ch.all (fun p => am_ok am_d141 p.1 p.2)) = true := by decide +kernel
set_option maxRecDepth 100000 in
theorem am_okc141_1 : am_L141_1.all (fun ch => ch.all (fun p => am_ok am_d141 p.1 p.2)) = true := by decide +kernel
set_option maxRecDepth 100000 in
theorem am_okc141_2 : am_L141_2.all (fun ch => ch.all (fun p => am_ok am_d141 p.1 p.2)) = true := by decide +kernel
set_option maxRecDepth 100000 in
theorem am_okc141_3 : am_L141_3.all (fun ch => ch.all (fun p => am_ok am_d141 p.1 p.2)) = true := by decide +kernel
set_option maxRecDepth 100000 in
theorem am_okc141_4 : am_L141_4.all (fun ch => ch.all (fun p => am_ok am_d141 p.1 p.2)) = true := by decide +kernel
set_option maxRecDepth 100000 in
theorem am_okd141 : am_okd am_d141 = true := by decide +kernel
theorem am_ok141 : am_okm am_d141 = true := am_okmk am_okd141 (am_alla am_okc141_0 (am_alla am_okc141_1 (am_alla am_okc141_2 (am_alla am_okc141_3 am_okc141_4))))
set_option maxRecDepth 100000 in
theorem am_okc142_0 : am_L142_0.all (fun ch => ch.all (fun p => am_ok am_d142 p.1 p.2)) = true := by decide +kernel
set_option maxRecDepth 100000 in
theorem am_okd142 : am_okd am_d142 = true := by decide +kernel
theorem am_ok142 : am_okm am_d142 = true := am_okmk am_okd142 am_okc142_0
set_option maxRecDepth 100000 in
theorem am_okc143_0 : am_L143_0.all (fun ch => ch.all (fun p => am_ok am_d143 p.1 p.2)) = true := by decide +kernel
set_option maxRecDepth 100000 in
theorem am_okd143 : am_okd am_d143 = true := by decide +kernel
theorem am_ok143 : am_okm am_d143 = true := am_okmk am_okd143 am_okc143_0
set_option maxRecDepth 100000 in
theorem am_okc144_0 : am_L144_0.all (fun ch => ch.all (fun p => am_ok am_d144 p.1 p.2)) = true := by decide +kernel
set_option maxRecDepth 100000 in
theorem am_okd144 : am_okd am_d144 = true := by decide +kernel
theorem am_ok144 : am_okm am_d144 = true := am_okmk am_okd144 am_okc144_0
