set_option maxRecDepth 100000 in
theorem am_okc20_0 : am_L20_0.all (fun ch => ch.all (fun p => am_ok am_d20 p.1 p.2)) = true := by decide +kernel
set_option maxRecDepth 100000 in
theorem am_okd20 : am_okd am_d20 = true := by decide +kernel
theorem am_ok20 : am_okm am_d20 = true := am_okmk am_okd20 am_okc20_0
set_option maxRecDepth 100000 in
theorem am_okc21_0 : am_L21_0.all (fun ch => ch.all (fun p => am_ok am_d21 p.1 p.2)) = true := by decide +kernel
set_option maxRecDepth 100000 in
theorem am_okd21 : am_okd am_d21 = true := by decide +kernel
theorem am_ok21 : am_okm am_d21 = true := am_okmk am_okd21 am_okc21_0
set_option maxRecDepth 100000 in
theorem am_okc22_0 : am_L22_0.all (fun ch => ch.all (fun p => am_ok am_d22 p.1 p.2)) = true := by decide +kernel
set_option maxRecDepth 100000 in
theorem am_okd22 : am_okd am_d22 = true := by decide +kernel
theorem am_ok22 : am_okm am_d22 = true := am_okmk am_okd22 am_okc22_0
set_option maxRecDepth 100000 in
theorem am_okc23_0 : am_L23_0.all (fun ch => ch.all (fun p => am_ok am_d23 p.1 p.2)) = true := by decide +kernel
set_option maxRecDepth 100000 in
theorem am_okd23 : am_okd am_d23 = true := by decide +kernel
theorem am_ok23 : am_okm am_d23 = true := am_okmk am_okd23 am_okc23_0
set_option maxRecDepth 100000 in
theorem am_okc24_0 : am_L24_0.all (fun ch => ch.all (fun p => am_ok am_d24 p.1 p.2)) = true := by decide +kernel
set_option maxRecDepth 100000 in
theorem am_okd24 : am_okd am_d24 = true := by decide +kernel
theorem am_ok24 : am_okm am_d24 = true := am_okmk am_okd24 am_okc24_0
set_option maxRecDepth 100000 in
theorem am_okc25_0 : am_L25_0.all (fun ch => ch.all (fun p => am_ok am_d25 p.1 p.2)) = true := by decide +kernel
set_option maxRecDepth 100000 in
theorem am_okd25 : am_okd am_d25 = true := by decide +kernel
theorem am_ok25 : am_okm am_d25 = true := am_okmk am_okd25 am_okc25_0
set_option maxRecDepth 100000 in
theorem am_okc26_0 : am_L26_0.all (fun ch => ch.all (fun p => am_ok am_d26 p.1 p.2)) = true := by decide +kernel
set_option maxRecDepth 100000 in
theorem am_okd26 : am_okd am_d26 = true := by decide +kernel
theorem am_ok26 : am_okm am_d26 = true := am_okmk am_okd26 am_okc26_0
set_option maxRecDepth 100000 in
theorem am_okc27_0 : am_L27_0.all (fun ch => ch.all (fun p => am_ok am_d27 p.1 p.2)) = true := by decide +kernel
set_option maxRecDepth 100000 in
theorem am_okd27 : am_okd am_d27 = true := by decide +kernel
theorem am_ok27 : am_okm am_d27 = true := am_okmk am_okd27 am_okc27_0
set_option maxRecDepth 100000 in
theorem am_okc28_0 : am_L28_0.all (fun ch => ch.all (fun p => am_ok am_d28 p.1 p.2)) = true := by decide +kernel
set_option maxRecDepth 100000 in
theorem am_okd28 : am_okd am_d28 = true := by decide +kernel
theorem am_ok28 : am_okm am_d28 = true := am_okmk am_okd28 am_okc28_0
set_option maxRecDepth 100000 in
theorem am_okc29_0 : am_L29_0.all (fun ch => ch.all (fun p => am_ok am_d29 p.1 p.2)) = true := by decide +kernel
set_option maxRecDepth 100000 in
theorem am_okd29 : am_okd am_d29 = true := by decide +kernel
theorem am_ok29 : am_okm am_d29 = true := am_okmk am_okd29 am_okc29_0
set_option maxRecDepth 100000 in
theorem am_okc30_0 : am_L30_0.all (fun ch => ch.all (fun p => am_ok am_d30 p.1 p.2)) = true := by decide +kernel
set_option maxRecDepth 100000 in
theorem am_okd30 : am_okd am_d30 = true := by decide +kernel
theorem am_ok30 : am_okm am_d30 = true := am_okmk am_okd30 am_okc30_0
set_option maxRecDepth 100000 in
theorem am_okc31_0 : am_L31_0.all (fun ch => ch.all (fun p => am_ok am_d31 p.1 p.2)) = true := by decide +kernel
set_option maxRecDepth 100000 in
theorem am_okd31 : am_okd am_d31 = true := by decide +kernel
theorem am_ok31 : am_okm am_d31 = true := am_okmk am_okd31 am_okc31_0
set_option maxRecDepth 100000 in
theorem am_okc32_0 : am_L32_0.all (fun ch => ch.all (fun p => am_ok am_d32 p.1 p.2)) = true := by decide +kernel
set_option maxRecDepth 100000 in
theorem am_okd32 : am_okd am_d32 = true := by decide +kernel
theorem am_ok32 : am_okm am_d32 = true := am_okmk am_okd32 am_okc32_0
set_option maxRecDepth 100000 in
theorem am_okc33_0 : am_L33_0.all (fun ch => ch.all (fun p => am_ok am_d33 p.1 p.2)) = true := by decide +kernel
set_option maxRecDepth 100000 in
theorem am_okd33 : am_okd am_d33 = true := by decide +kernel
theorem am_ok33 : am_okm am_d33 = true := am_okmk am_okd33 am_okc33_0
set_option maxRecDepth 100000 in
theorem am_okc34_0 : am_L34_0.all (fun ch => ch.all (fun p => am_ok am_d34 p.1 p.2)) = true := by decide +kernel
set_option maxRecDepth 100000 in
theorem am_okd34 : am_okd am_d34 = true := by decide +kernel
theorem am_ok34 : am_okm am_d34 = true := am_okmk am_okd34 am_okc34_0
set_option maxRecDepth 100000 in
theorem am_okc35_0 : am_L35_0.all (fun ch => ch.all (fun p => am_ok am_d35 p.1 p.2)) = true := by decide +kernel
set_option maxRecDepth 100000 in
theorem am_okd35 : am_okd am_d35 = true := by decide +kernel
theorem am_ok35 : am_okm am_d35 = true := am_okmk am_okd35 am_okc35_0
set_option maxRecDepth 100000 in
theorem am_okc36_0 : am_L36_0.all (fun ch => ch.all (fun p => am_ok am_d36 p.1 p.2)) = true := by decide +kernel
set_option maxRecDepth 100000 in
theorem am_okd36 : am_okd am_d36 = true := by decide +kernel
theorem am_ok36 : am_okm am_d36 = true := am_okmk am_okd36 am_okc36_0
set_option maxRecDepth 100000 in
theorem am_okc37_0 : am_L37_0.all (fun ch => ch.all (fun p => am_ok am_d37 p.1 p.2)) = true := by decide +kernel
set_option maxRecDepth 100000 in
theorem am_okd37 : am_okd am_d37 = true := by decide +kernel
theorem am_ok37 : am_okm am_d37 = true := am_okmk am_okd37 am_okc37_0
set_option maxRecDepth 100000 in
theorem am_okc38_0 : am_L38_0.all (fun ch => ch.all (fun p => am_ok am_d38 p.1 p.2)) = true := by decide +kernel
set_option maxRecDepth 100000 in
theorem am_okd38 : am_okd am_d38 = true := by decide +kernel
theorem am_ok38 : am_okm am_d38 = true := am_okmk am_okd38 am_okc38_0
set_option maxRecDepth 100000 in
theorem am_okc39_0 : am_L39_0.all (fun ch => ch.all (fun p => am_ok am_d39 p.1 p.2)) = true := by decide +kernel
set_option maxRecDepth 100000 in
theorem am_okd39 : am_okd am_d39 = true := by decide +kernel
theorem am_ok39 : am_okm am_d39 = true := am_okmk am_okd39 am_okc39_0
set_option maxRecDepth 100000 in
theorem am_okc40_0 : am_L40_0.all (fun ch => ch.all (fun p => am_ok am_d40 p.1 p.2)) = true := by decide +kernel
set_option maxRecDepth 100000 in
theorem am_okd40 : am_okd am_d40 = true := by decide +kernel
theorem am_ok40 : am_okm am_d40 = true := am_okmk am_okd40 am_okc40_0
set_option maxRecDepth 100000 in
theorem am_okc41_0 : am_L41_0.all (fun ch => ch.all (fun p => am_ok am_d41 p.1 p.2)) = true := by decide +kernel
set_option maxRecDepth 100000 in
theorem am_okd41 : am_okd am_d41 = true := by decide +kernel
theorem am_ok41 : am_okm am_d41 = true := am_okmk am_okd41 am_okc41_0
set_option maxRecDepth 100000 in
theorem am_okc42_0 : am_L42_0.all (fun ch => ch.all (fun p => am_ok am_d42 p.1 p.2)) = true := by decide +kernel
set_option maxRecDepth 100000 in
theorem am_okd42 : am_okd am_d42 = true := by decide +kernel
theorem am_ok42 : am_okm am_d42 = true := am_okmk am_okd42 am_okc42_0
set_option maxRecDepth 100000 in
theorem am_okc43_0 : am_L43_0.all (fun ch => ch.all (fun p => am_ok am_d43 p.1 p.2)) = true := by decide +kernel
set_option maxRecDepth 100000 in
theorem am_okd43 : am_okd am_d43 = true := by decide +kernel
theorem am_ok43 : am_okm am_d43 = true := am_okmk am_okd43 am_okc43_0
set_option maxRecDepth 100000 in
theorem am_okc44_0 : am_L44_0.all (fun ch => ch.all (fun p => am_ok am_d44 p.1 p.2)) = true := by decide +kernel
set_option maxRecDepth 100000 in
theorem am_okd44 : am_okd am_d44 = true := by decide +kernel
theorem am_ok44 : am_okm am_d44 = true := am_okmk am_okd44 am_okc44_0
set_option maxRecDepth 100000 in
theorem am_okc45_0 : am_L45_0.all (fun ch => ch.all (fun p => am_ok am_d45 p.1 p.2)) = true := by decide +kernel
set_option maxRecDepth 100000 in
theorem am_okd45 : am_okd am_d45 = true := by decide +kernel
theorem am_ok45 : am_okm am_d45 = true := am_okmk am_okd45 am_okc45_0
set_option maxRecDepth 100000 in
theorem am_okc46_0 : am_L46_0.all (fun ch => ch.all (fun p => am_ok am_d46 p.1 p.2)) = true := by decide +kernel
set_option maxRecDepth 100000 in
theorem am_okd46 : am_okd am_d46 = true := by decide +kernel
theorem am_ok46 : am_okm am_d46 = true := am_okmk am_okd46 am_okc46_0
set_option maxRecDepth 100000 in
theorem am_okc47_0 : am_L47_0.all (fun ch => ch.all (fun p => am_ok am_d47 p.1 p.2)) = true := by decide +kernel
set_option maxRecDepth 100000 in
theorem am_okd47 : am_okd am_d47 = true := by decide +kernel
theorem am_ok47 : am_okm am_d47 = true := am_okmk am_okd47 am_okc47_0
set_option maxRecDepth 100000 in
theorem am_okc48_0 : am_L48_0.all (fun ch => ch.all (fun p => am_ok am_d48 p.1 p.2)) = true := by decide +kernel
set_option maxRecDepth 100000 in
theorem am_okd48 : am_okd am_d48 = true := by decide +kernel
theorem am_ok48 : am_okm am_d48 = true := am_okmk am_okd48 am_okc48_0
set_option maxRecDepth 100000 in
theorem am_okc49_0 : am_L49_0.all (fun ch => ch.all (fun p => am_ok am_d49 p.1 p.2)) = true := by decide +kernel
set_option maxRecDepth 100000 in
theorem am_okd49 : am_okd am_d49 = true := by decide +kernel
theorem am_ok49 : am_okm am_d49 = true := am_okmk am_okd49 am_okc49_0
set_option maxRecDepth 100000 in
theorem am_okc50_0 : am_L50_0.all (fun ch => ch.all (fun p => am_ok am_d50 p.1 p.2)) = true := by decide +kernel
set_option maxRecDepth 100000 in
theorem am_okd50 : am_okd am_d50 = true := by decide +kernel
theorem am_ok50 : am_okm am_d50 = true := am_okmk am_okd50 am_okc50_0
set_option maxRecDepth 100000 in
theorem am_okc51_0 : am_L51_0.all (fun ch => ch.all (fun p => am_ok am_d51 p.1 p.2)) = true := by decide +kernel
set_option maxRecDepth 100000 in
theorem am_okd51 : am_okd am_d51 = true := by decide +kernel
theorem am_ok51 : am_okm am_d51 = true := am_okmk am_okd51 am_okc51_0
set_option maxRecDepth 100000 in
theorem am_okc52_0 : am_L52_0.all (fun ch => ch.all (fun p => am_ok am_d52 p.1 p.2)) = true := by decide +kernel
set_option maxRecDepth 100000 in
theorem am_okd52 : am_okd am_d52 = true := by decide +kernel
theorem am_ok52 : am_okm am_d52 = true := am_okmk am_okd52 am_okc52_0
set_option maxRecDepth 100000 in
theorem am_okc53_0 : am_L53_0.all (fun ch => ch.all (fun p => am_ok am_d53 p.1 p.2)) = true := by decide +kernel
set_option maxRecDepth 100000 in
theorem am_okd53 : am_okd am_d53 = true := by decide +kernel
theorem am_ok53 : am_okm am_d53 = true := am_okmk am_okd53 am_okc53_0
set_option maxRecDepth 100000 in
theorem am_okc54_0 : am_L54_0.all (fun ch => ch.all (fun p => am_ok am_d54 p.1 p.2)) = true := by decide +kernel
set_option maxRecDepth 100000 in
theorem am_okd54 : am_okd am_d54 = true := by decide +kernel
theorem am_ok54 : am_okm am_d54 = true := am_okmk am_okd54 am_okc54_0
set_option maxRecDepth 100000 in
theorem am_okc55_0 : am_L55_0.all (fun ch => ch.all (fun p => am_ok am_d55 p.1 p.2)) = true := by decide +kernel
set_option maxRecDepth 100000 in
theorem am_okd55 : am_okd am_d55 = true := by decide +kernel
theorem am_ok55 : am_okm am_d55 = true := am_okmk am_okd55 am_okc55_0
set_option maxRecDepth 100000 in
theorem am_okc56_0 : am_L56_0.all (fun ch => ch.all (fun p => am_ok am_d56 p.1 p.2)) = true := by decide +kernel
set_option maxRecDepth 100000 in
theorem am_okd56 : am_okd am_d56 = true := by decide +kernel
theorem am_ok56 : am_okm am_d56 = true := am_okmk am_okd56 am_okc56_0
set_option maxRecDepth 100000 in
theorem am_okc57_0 : am_L57_0.all (fun ch => ch.all (fun p => am_ok am_d57 p.1 p.2)) = true := by decide +kernel
set_option maxRecDepth 100000 in
theorem am_okd57 : am_okd am_d57 = true := by decide +kernel
theorem am_ok57 : am_okm am_d57 = true := am_okmk am_okd57 am_okc57_0
set_option maxRecDepth 100000 in
theorem am_okc58_0 : am_L58_0.all (fun ch => ch.all (fun p => am_ok am_d58 p.1 p.2)) = true := by decide +kernel
set_option maxRecDepth 100000 in
theorem am_okd58 : am_okd am_d58 = true := by decide +kernel
theorem am_ok58 : am_okm am_d58 = true := am_okmk am_okd58 am_okc58_0
set_option maxRecDepth 100000 in
theorem am_okc59_0 : am_L59_0.all (fun ch => ch.all (fun p => am_ok am_d59 p.1 p.2)) = true := by decide +kernel
set_option maxRecDepth 100000 in
theorem am_okd59 : am_okd am_d59 = true := by decide +kernel
theorem am_ok59 : am_okm am_d59 = true := am_okmk am_okd59 am_okc59_0
set_option maxRecDepth 100000 in
theorem am_okc60_0 : am_L60_0.all (fun ch => ch.all (fun p => am_ok am_d60 p.1 p.2)) = true := by decide +kernel
set_option maxRecDepth 100000 in
theorem am_okd60 : am_okd am_d60 = true := by decide +kernel
theorem am_ok60 : am_okm am_d60 = true := am_okmk am_okd60 am_okc60_0
set_option maxRecDepth 100000 in
theorem am_okc61_0 : am_L61_0.all (fun ch => ch.all (fun p => am_ok am_d61 p.1 p.2)) = true := by decide +kernel
set_option maxRecDepth 100000 in
theorem am_okd61 : am_okd am_d61 = true := by decide +kernel
theorem am_ok61 : am_okm am_d61 = true := am_okmk am_okd61 am_okc61_0
set_option maxRecDepth 100000 in
theorem am_okc62_0 : am_L62_0.all (fun ch => ch.all (fun p => am_ok am_d62 p.1 p.2)) = true := by decide +kernel
set_option maxRecDepth 100000 in
theorem am_okd62 : am_okd am_d62 = true := by decide +kernel
theorem am_ok62 : am_okm am_d62 = true := am_okmk am_okd62 am_okc62_0
set_option maxRecDepth 100000 in
theorem am_okc63_0 : am_L63_0.all (fun ch => ch.all (fun p => am_ok am_d63 p.1 p.2)) = true := by decide +kernel
set_option maxRecDepth 100000 in
theorem am_okd63 : am_okd am_d63 = true := by decide +kernel
theorem am_ok63 : am_okm am_d63 = true := am_okmk am_okd63 am_okc63_0
set_option maxRecDepth 100000 in
theorem am_okc64_0 : am_L64_0.all (fun ch => ch.all (fun p => am_ok am_d64 p.1 p.2)) = true := by decide +kernel
set_option maxRecDepth 100000 in
theorem am_okd64 : am_okd am_d64 = true := by decide +kernel
theorem am_ok64 : am_okm am_d64 = true := am_okmk am_okd64 am_okc64_0
set_option maxRecDepth 100000 in
theorem am_okc65_0 : am_L65_0.all (fun ch => ch.all (fun p => am_ok am_d65 p.1 p.2)) = true := by decide +kernel
set_option maxRecDepth 100000 in
theorem am_okd65 : am_okd am_d65 = true := by decide +kernel
theorem am_ok65 : am_okm am_d65 = true := am_okmk am_okd65 am_okc65_0
set_option maxRecDepth 100000 in
theorem am_okc66_0 : am_L66_0.all (fun ch => ch.all (fun p => am_ok am_d66 p.1 p.2)) = true := by decide +kernel
set_option maxRecDepth 100000 in
theorem am_okd66 : am_okd am_d66 = true := by decide +kernel
theorem am_ok66 : am_okm am_d66 = true := am_okmk am_okd66 am_okc66_0
set_option maxRecDepth 100000 in
theorem am_okc67_0 : am_L67_0.all (fun ch => ch.all (fun p => am_ok am_d67 p.1 p.2)) = true := by decide +kernel
set_option maxRecDepth 100000 in
theorem am_okd67 : am_okd am_d67 = true := by decide +kernel
theorem am_ok67 : am_okm am_d67 = true := am_okmk am_okd67 am_okc67_0
set_option maxRecDepth 100000 in
theorem am_okc68_0 : am_L68_0.all (fun ch => ch.all (fun p => am_ok am_d68 p.1 p.2)) = true := by decide +kernel
set_option maxRecDepth 100000 in
theorem am_okd68 : am_okd am_d68 = true := by decide +kernel
theorem am_ok68 : am_okm am_d68 = true := am_okmk am_okd68 am_okc68_0
set_option maxRecDepth 100000 in
theorem am_okc69_0 : am_L69_0.all (fun ch => ch.all (fun p => am_ok am_d69 p.1 p.2)) = true := by decide +kernel
set_option maxRecDepth 100000 in
theorem am_okd69 : am_okd am_d69 = true := by decide +kernel
theorem am_ok69 : am_okm am_d69 = true := am_okmk am_okd69 am_okc69_0
