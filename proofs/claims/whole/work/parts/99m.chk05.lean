set_option maxRecDepth 100000 in
theorem am_okc179_0 : am_L179_0.all (fun ch => ch.all (fun p => am_ok am_d179 p.1 p.2)) = true := by decide +kernel
set_option maxRecDepth 100000 in
theorem am_okd179 : am_okd am_d179 = true := by decide +kernel
theorem am_ok179 : am_okm am_d179 = true := am_okmk am_okd179 am_okc179_0
set_option maxRecDepth 100000 in
theorem am_okc180_0 : am_L180_0.all (fun ch => ch.all (fun p => am_ok am_d180 p.1 p.2)) = true := by decide +kernel
set_option maxRecDepth 100000 in
theorem am_okd180 : am_okd am_d180 = true := by decide +kernel
theorem am_ok180 : am_okm am_d180 = true := am_okmk am_okd180 am_okc180_0
set_option maxRecDepth 100000 in
theorem am_okc181_0 : am_L181_0.all (fun ch => ch.all (fun p => am_ok am_d181 p.1 p.2)) = true := by decide +kernel
set_option maxRecDepth 100000 in
theorem am_okd181 : am_okd am_d181 = true := by decide +kernel
theorem am_ok181 : am_okm am_d181 = true := am_okmk am_okd181 am_okc181_0
set_option maxRecDepth 100000 in
theorem am_okc182_0 : am_L182_0.all (fun ch => ch.all (fun p => am_ok am_d182 p.1 p.2)) = true := by decide +kernel
set_option maxRecDepth 100000 in
theorem am_okd182 : am_okd am_d182 = true := by decide +kernel
theorem am_ok182 : am_okm am_d182 = true := am_okmk am_okd182 am_okc182_0
set_option maxRecDepth 100000 in
theorem am_okc183_0 : am_L183_0.all (fun ch => ch.all (fun p => am_ok am_d183 p.1 p.2)) = true := by decide +kernel
set_option maxRecDepth 100000 in
theorem am_okd183 : am_okd am_d183 = true := by decide +kernel
theorem am_ok183 : am_okm am_d183 = true := am_okmk am_okd183 am_okc183_0
set_option maxRecDepth 100000 in
theorem am_okc184_0 : am_L184_0.all (fun ch => ch.all (fun p => am_ok am_d184 p.1 p.2)) = true := by decide +kernel
set_option maxRecDepth 100000 in
theorem am_okd184 : am_okd am_d184 = true := by decide +kernel
theorem am_ok184 : am_okm am_d184 = true := am_okmk am_okd184 am_okc184_0
set_option maxRecDepth 100000 in
theorem am_okc185_0 : am_L185_0.all (fun ch => ch.all (fun p => am_ok am_d185 p.1 p.2)) = true := by decide +kernel
set_option maxRecDepth 100000 in
theorem am_okd185 : am_okd am_d185 = true := by decide +kernel
theorem am_ok185 : am_okm am_d185 = true := am_okmk am_okd185 am_okc185_0
set_option maxRecDepth 100000 in
theorem am_okc186_0 : am_L186_0.all (fun ch => ch.all (fun p => am_ok am_d186 p.1 p.2)) = true := by decide +kernel
set_option maxRecDepth 100000 in
theorem am_okd186 : am_okd am_d186 = true := by decide +kernel
theorem am_ok186 : am_okm am_d186 = true := am_okmk am_okd186 am_okc186_0
set_option maxRecDepth 100000 in
theorem am_okc187_0 : am_L187_0.all (fun ch => ch.all (fun p => am_ok am_d187 p.1 p.2)) = true := by decide +kernel
set_option maxRecDepth 100000 in
theorem am_okd187 : am_okd am_d187 = true := by decide +kernel
theorem am_ok187 : am_okm am_d187 = true := am_okmk am_okd187 am_okc187_0
set_option maxRecDepth 100000 in
theorem am_okc188_0 : am_L188_0.all (fun ch => ch.all (fun p => am_ok am_d188 p.1 p.2)) = true := by decide +kernel
set_option maxRecDepth 100000 in
theorem am_okd188 : am_okd am_d188 = true := by decide +kernel
theorem am_ok188 : am_okm am_d188 = true := am_okmk am_okd188 am_okc188_0
set_option maxRecDepth 100000 in
theorem am_okc189_0 : am_L189_0.all (fun ch => ch.all (fun p => am_ok am_d189 p.1 p.2)) = true := by decide +kernel
set_option maxRecDepth 100000 in
theorem am_okc189_1 : am_L189_1.all (fun ch => ch.all (fun p => am_ok am_d189 p.1 p.2)) = true := by decide +kernel
set_option maxRecDepth 100000 in
theorem am_okc189_2 : am_L189_2.all (fun ch => ch.all (fun p => am_ok am_d189 p.1 p.2)) = true := by decide +kernel
set_option maxRecDepth 100000 in
theorem am_okd189 : am_okd am_d189 = true := by decide +kernel
theorem am_ok189 : am_okm am_d189 = true := am_okmk am_okd189 (am_alla am_okc189_0 (am_alla am_okc189_1 am_okc189_2))
set_option maxRecDepth 100000 in
theorem am_okc190_0 : am_L190_0.all (fun ch => ch.all (fun p => am_ok am_d190 p.1 p.2)) = true := by decide +kernel
set_option maxRecDepth 100000 in
theorem am_okd190 : am_okd am_d190 = true := by decide +kernel
theorem am_ok190 : am_okm am_d190 = true := am_okmk am_okd190 am_okc190_0
set_option maxRecDepth 100000 in
theorem am_okc191_0 : am_L191_0.all (fun ch => ch.all (fun p => am_ok am_d191 p.1 p.2)) = true := by decide +kernel
set_option maxRecDepth 100000 in
theorem am_okd191 : am_okd am_d191 = true := by decide +kernel
theorem am_ok191 : am_okm am_d191 = true := am_okmk am_okd191 am_okc191_0
set_option maxRecDepth 100000 in
theorem am_okc192_0 : am_L192_0.all (fun ch => ch.all (fun p => am_ok am_d192 p.1 p.2)) = true := by decide +kernel
set_option maxRecDepth 100000 in
theorem am_okd192 : am_okd am_d192 = true := by decide +kernel
theorem am_ok192 : am_okm am_d192 = true := am_okmk am_okd192 am_okc192_0
set_option maxRecDepth 100000 in
theorem am_okc193_0 : am_L193_0.all (fun ch => ch.all (fun p => am_ok am_d193 p.1 p.2)) = true := by decide +kernel
set_option maxRecDepth 100000 in
theorem am_okd193 : am_okd am_d193 = true := by decide +kernel
theorem am_ok193 : am_okm am_d193 = true := am_okmk am_okd193 am_okc193_0
set_option maxRecDepth 100000 in
theorem am_okc194_0 : am_L194_0.all (fun ch => ch.all (fun p => am_ok am_d194 p.1 p.2)) = true := by decide +kernel
set_option maxRecDepth 100000 in
theorem am_okd194 : am_okd am_d194 = true := by decide +kernel
theorem am_ok194 : am_okm am_d194 = true := am_okmk am_okd194 am_okc194_0
set_option maxRecDepth 100000 in
theorem am_okc195_0 : am_L195_0.all (fun ch => ch.all (fun p => am_ok am_d195 p.1 p.2)) = true := by decide +kernel
set_option maxRecDepth 100000 in
theorem am_okd195 : am_okd am_d195 = true := by decide +kernel
theorem am_ok195 : am_okm am_d195 = true := am_okmk am_okd195 am_okc195_0
set_option maxRecDepth 100000 in
theorem am_okc196_0 : am_L196_0.all (fun ch => ch.all (fun p => am_ok am_d196 p.1 p.2)) = true := by decide +kernel
set_option maxRecDepth 100000 in
theorem am_okc196_1 : am_L196_1.all (fun ch => ch.all (fun p => am_ok am_d196 p.1 p.2)) = true := by decide +kernel
set_option maxRecDepth 100000 in
theorem am_okc196_2 : am_L196_2.all (fun ch => ch.all (fun p => am_ok am_d196 p.1 p.2)) = true := by decide +kernel
set_option maxRecDepth 100000 in
theorem am_okd196 : am_okd am_d196 = true := by decide +kernel
theorem am_ok196 : am_okm am_d196 = true := am_okmk am_okd196 (am_alla am_okc196_0 (am_alla am_okc196_1 am_okc196_2))
set_option maxRecDepth 100000 in
theorem am_okc197_0 : am_L197_0.all (fun ch => ch.all (fun p => am_ok am_d197 p.1 p.2)) = true := by decide +kernel
set_option maxRecDepth 100000 in
theorem am_okd197 : am_okd am_d197 = true := by decide +kernel
theorem am_ok197 : am_okm am_d197 = true := am_okmk am_okd197 am_okc197_0
set_option maxRecDepth 100000 in
theorem am_okc198_0 : am_L198_0.all (fun ch => ch.all (fun p => am_ok am_d198 p.1 p.2)) = true := by decide +kernel
set_option maxRecDepth 100000 in
theorem am_okc198_1 : am_L198_1.all (fun ch => ch.all (fun p => am_ok am_d198 p.1 p.2)) = true := by decide +kernel
set_option maxRecDepth 100000 in
theorem am_okd198 : am_okd am_d198 = true := by decide +kernel
theorem am_ok198 : am_okm am_d198 = true := am_okmk am_okd198 (am_alla am_okc198_0 am_okc198_1)
set_option maxRecDepth 100000 in
theorem am_okc199_0 : am_L199_0.all (fun ch => ch.all (fun p => am_ok am_d199 p.1 p.2)) = true := by decide +kernel
set_option maxRecDepth 100000 in
theorem am_okc199_1 : am_L199_1.all (fun ch => ch.all (fun p => am_ok am_d199 p.1 p.2)) = true := by decide +kernel
set_option maxRecDepth 100000 in
theorem am_okc199_2 : am_L199_2.all (fun ch => ch.all (fun p => am_ok am_d199 p.1 p.2)) = true := by decide +kernel
set_option maxRecDepth 100000 in
theorem am_okc199_3 : am_L199_3.all (fun ch => ch.all (fun p => am_ok am_d199 p.1 p.2)) = true := by decide +kernel
set_option maxRecDepth 100000 in
theorem am_okc199_4 : am_L199_4.all (fun ch => ch.all (fun p => am_ok am_d199 p.1 p.2)) = true := by decide +kernel
set_option maxRecDepth 100000 in
theorem am_okc199_5 : am_L199_5.all (fun ch => ch.all (fun p => am_ok am_d199 p.1 p.2)) = true := by decide +kernel
set_option maxRecDepth 100000 in
theorem am_okc199_6 : am_L199_6.all (fun ch => ch.all (fun p => am_ok am_d199 p.1 p.2)) = true := by decide +kernel
set_option maxRecDepth 100000 in
theorem am_okd199 : am_okd am_d199 = true := by decide +kernel
theorem am_ok199 : am_okm am_d199 = true := am_okmk am_okd199 (am_alla am_okc199_0 (am_alla am_okc199_1 (am_alla am_okc199_2 (am_alla am_okc199_3 (am_alla am_okc199_4 (am_alla am_okc199_5 am_okc199_6))))))
set_option maxRecDepth 100000 in
theorem am_okc200_0 : am_L200_0.all (fun ch => ch.all (fun p => am_ok am_d200 p.1 p.2)) = true := by decide +kernel
set_option maxRecDepth 100000 in
theorem am_okd200 : am_okd am_d200 = true := by decide +kernel
theorem am_ok200 : am_okm am_d200 = true := am_okmk am_okd200 am_okc200_0
set_option maxRecDepth 100000 in
theorem am_okc201_0 : am_L201_0.all (fun ch => ch.all (fun p => am_ok am_d201 p.1 p.2)) = true := by decide +kernel
set_option maxRecDepth 100000 in
theorem am_okd201 : am_okd am_d201 = true := by decide +kernel
theorem am_ok201 : am_okm am_d201 = true := am_okmk am_okd201 am_okc201_0
set_option maxRecDepth 100000 in
theorem am_okc202_0 : am_L202_0.all (fun ch => ch.all (fun p => am_ok am_d202 p.1 p.2)) = true := by decide +kernel
set_option maxRecDepth 100000 in
theorem am_okd202 : am_okd am_d202 = true := by decide +kernel
theorem am_ok202 : am_okm am_d202 = true := am_okmk am_okd202 am_okc202_0
