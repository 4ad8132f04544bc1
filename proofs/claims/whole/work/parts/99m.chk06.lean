set_option maxRecDepth 100000 in
theorem am_okc203_0 : am_L203_0.all (fun ch => ch.all (fun p => am_ok am_d203 p.1 p.2)) = true := by decide +kernel
set_option maxRecDepth 100000 in
theorem am_okd203 : am_okd am_d203 = true := by decide +kernel
theorem am_ok203 : am_okm am_d203 = true := am_okmk am_okd203 am_okc203_0
set_option maxRecDepth 100000 in
theorem am_okc204_0 : am_L204_0.all (fun ch => ch.all (fun p => am_ok am_d204 p.1 p.2)) = true := by decide +kernel
set_option maxRecDepth 100000 in
theorem am_okd204 : am_okd am_d204 = true := by decide +kernel
theorem am_ok204 : am_okm am_d204 = true := am_okmk am_okd204 am_okc204_0
set_option maxRecDepth 100000 in
theorem am_okc205_0 : am_L205_0.all (fun ch => ch.all (fun p => am_ok am_d205 p.1 p.2)) = true := by decide +kernel
set_option maxRecDepth 100000 in
theorem am_okd205 : am_okd am_d205 = true := by decide +kernel
theorem am_ok205 : am_okm am_d205 = true := am_okmk am_okd205 am_okc205_0
set_option maxRecDepth 100000 in
theorem am_okc206_0 : am_L206_0.all (fun ch => ch.all (fun p => am_ok am_d206 p.1 p.2)) = true := by decide +kernel
set_option maxRecDepth 100000 in
theorem am_okd206 : am_okd am_d206 = true := by decide +kernel
theorem am_ok206 : am_okm am_d206 = true := am_okmk am_okd206 am_okc206_0
set_option maxRecDepth 100000 in
theorem am_okc207_0 : am_L207_0.all (fun ch => ch.all (fun p => am_ok am_d207 p.1 p.2)) = true := by decide +kernel
set_option maxRecDepth 100000 in
theorem am_okd207 : am_okd am_d207 = true := by decide +kernel
theorem am_ok207 : am_okm am_d207 = true := am_okmk am_okd207 am_okc207_0
set_option maxRecDepth 100000 in
theorem am_okc208_0 : am_L208_0.all (fun ch => ch.all (fun p => am_ok am_d208 p.1 p.2)) = true := by decide +kernel
set_option maxRecDepth 100000 in
theorem am_okd208 : am_okd am_d208 = true := by decide +kernel
theorem am_ok208 : am_okm am_d208 = true := am_okmk am_okd208 am_okc208_0
set_option maxRecDepth 100000 in
theorem am_okc209_0 : am_L209_0.all (fun ch => ch.all (fun p => am_ok am_d209 p.1 p.2)) = true := by decide +kernel
set_option maxRecDepth 100000 in
theorem am_okd209 : am_okd am_d209 = true := by decide +kernel
theorem am_ok209 : am_okm am_d209 = true := am_okmk am_okd209 am_okc209_0
set_option maxRecDepth 100000 in
theorem am_okc210_0 : am_L210_0.all (fun ch => ch.all (fun p => am_ok am_d210 p.1 p.2)) = true := by decide +kernel
set_option maxRecDepth 100000 in
theorem am_okd210 : am_okd am_d210 = true := by decide +kernel
theorem am_ok210 : am_okm am_d210 = true := am_okmk am_okd210 am_okc210_0
set_option maxRecDepth 100000 in
theorem am_okc211_0 : am_L211_0.all (fun ch => ch.all (fun p => am_ok am_d211 p.1 p.2)) = true := by decide +kernel
set_option maxRecDepth 100000 in
theorem am_okc211_1 : am_L211_1.all (fun ch => ch.all (fun p => am_ok am_d211 p.1 p.2)) = true := by decide +kernel
set_option maxRecDepth 100000 in
theorem am_okd211 : am_okd am_d211 = true := by decide +kernel
theorem am_ok211 : am_okm am_d211 = true := am_okmk am_okd211 (am_alla am_okc211_0 am_okc211_1)
set_option maxRecDepth 100000 in
theorem am_okc212_0 : am_L212_0.all (fun ch => ch.all (fun p => am_ok am_d212 p.1 p.2)) = true := by decide +kernel
set_option maxRecDepth 100000 in
theorem am_okc212_1 : am_L212_1.all (fun ch => ch.all (fun p => am_ok am_d212 p.1 p.2)) = true := by decide +kernel
set_option maxRecDepth 100000 in
theorem am_okd212 : am_okd am_d212 = true := by decide +kernel
theorem am_ok212 : am_okm am_d212 = true := am_okmk am_okd212 (am_alla am_okc212_0 am_okc212_1)
set_option maxRecDepth 100000 in
theorem am_okc213_0 : am_L213_0.all (fun ch => ch.all (fun p => am_ok am_d213 p.1 p.2)) = true := by decide +kernel
set_option maxRecDepth 100000 in
theorem am_okd213 : am_okd am_d213 = true := by decide +kernel
theorem am_ok213 : am_okm am_d213 = true := am_okmk am_okd213 am_okc213_0
set_option maxRecDepth 100000 in
theorem am_okc214_0 : am_L214_0.all (fun ch => ch.all (fun p => am_ok am_d214 p.1 p.2)) = true := by decide +kernel
set_option maxRecDepth 100000 in
theorem am_okc214_1 : am_L214_1.all (fun ch => ch.all (fun p => am_ok am_d214 p.1 p.2)) = true := by decide +kernel
set_option maxRecDepth 100000 in
theorem am_okd214 : am_okd am_d214 = true := by decide +kernel
theorem am_ok214 : am_okm am_d214 = true := am_okmk am_okd214 (am_alla am_okc214_0 am_okc214_1)
set_option maxRecDepth 100000 in
theorem am_okc215_0 : am_L215_0.all (fun ch => ch.all (fun p => am_ok am_d215 p.1 p.2)) = true := by decide +kernel
set_option maxRecDepth 100000 in
theorem am_okd215 : am_okd am_d215 = true := by decide +kernel
theorem am_ok215 : am_okm am_d215 = true := am_okmk am_okd215 am_okc215_0
set_option maxRecDepth 100000 in
theorem am_okc216_0 : am_L216_0.all (fun ch => ch.all (fun p => am_ok am_d216 p.1 p.2)) = true := by decide +kernel
set_option maxRecDepth 100000 in
theorem am_okd216 : am_okd am_d216 = true := by decide +kernel
theorem am_ok216 : am_okm am_d216 = true := am_okmk am_okd216 am_okc216_0
set_option maxRecDepth 100000 in
theorem am_okc217_0 : am_L217_0.all (fun ch => ch.all (fun p => am_ok am_d217 p.1 p.2)) = true := by decide +kernel
set_option maxRecDepth 100000 in
theorem am_okd217 : am_okd am_d217 = true := by decide +kernel
theorem am_ok217 : am_okm am_d217 = true := am_okmk am_okd217 am_okc217_0
set_option maxRecDepth 100000 in
theorem am_okc218_0 : am_L218_0.all (fun ch => ch.all (fun p => am_ok am_d218 p.1 p.2)) = true := by decide +kernel
set_option maxRecDepth 100000 in
theorem am_okd218 : am_okd am_d218 = true := by decide +kernel
theorem am_ok218 : am_okm am_d218 = true := am_okmk am_okd218 am_okc218_0
set_option maxRecDepth 100000 in
theorem am_okc219_0 : am_L219_0.all (fun ch => ch.all (fun p => am_ok am_d219 p.1 p.2)) = true := by decide +kernel
set_option maxRecDepth 100000 in
theorem am_okd219 : am_okd am_d219 = true := by decide +kernel
theorem am_ok219 : am_okm am_d219 = true := am_okmk am_okd219 am_okc219_0
set_option maxRecDepth 100000 in
theorem am_okc220_0 : am_L220_0.all (fun ch => ch.all (fun p => am_ok am_d220 p.1 p.2)) = true := by decide +kernel
set_option maxRecDepth 100000 in
theorem am_okd220 : am_okd am_d220 = true := by decide +kernel
theorem am_ok220 : am_okm am_d220 = true := am_okmk am_okd220 am_okc220_0
set_option maxRecDepth 100000 in
theorem am_okc221_0 : am_L221_0.all (fun ch => ch.all (fun p => am_ok am_d221 p.1 p.2)) = true := by decide +kernel
set_option maxRecDepth 100000 in
theorem am_okc221_1 : am_L221_1.all (fun ch => ch.all (fun p => am_ok am_d221 p.1 p.2)) = true := by decide +kernel
set_option maxRecDepth 100000 in
theorem am_okd221 : am_okd am_d221 = true := by decide +kernel
theorem am_ok221 : am_okm am_d221 = true := am_okmk am_okd221 (am_alla am_okc221_0 am_okc221_1)
set_option maxRecDepth 100000 in
theorem am_okc222_0 : am_L222_0.all (fun ch => ch.all (fun p => am_ok am_d222 p.1 p.2)) = true := by decide +kernel
set_option maxRecDepth 100000 in
theorem am_okd222 : am_okd am_d222 = true := by decide +kernel
theorem am_ok222 : am_okm am_d222 = true := am_okmk am_okd222 am_okc222_0
set_option maxRecDepth 100000 in
theorem am_okc223_0 : am_L223_0.all (fun ch => ch.all (fun p => am_ok am_d223 p.1 p.2)) = true := by decide +kernel
set_option maxRecDepth 100000 in
theorem am_okd223 : am_okd am_d223 = true := by decide +kernel
theorem am_ok223 : am_okm am_d223 = true := am_okmk am_okd223 am_okc223_0
set_option maxRecDepth 100000 in
theorem am_okc224_0 : am_L224_0.all (fun ch => ch.all (fun p => am_ok am_d224 p.1 p.2)) = true := by decide +kernel
set_option maxRecDepth 100000 in
theorem am_okd224 : am_okd am_d224 = true := by decide +kernel
theorem am_ok224 : am_okm am_d224 = true := am_okmk am_okd224 am_okc224_0
set_option maxRecDepth 100000 in
theorem am_okc225_0 : am_L225_0.all (fun ch => ch.all (fun p => am_ok am_d225 p.1 p.2)) = true := by decide +kernel
set_option maxRecDepth 100000 in
theorem am_okd225 : am_okd am_d225 = true := by decide +kernel
theorem am_ok225 : am_okm am_d225 = true := am_okmk am_okd225 am_okc225_0
set_option maxRecDepth 100000 in
theorem am_okc226_0 : am_L226_0.all (fun ch => ch.all (fun p => am_ok am_d226 p.1 p.2)) = true := by decide +kernel
set_option maxRecDepth 100000 in
theorem am_okd226 : am_okd am_d226 = true := by decide +kernel
theorem am_ok226 : am_okm am_d226 = true := am_okmk am_okd226 am_okc226_0
