set_option maxRecDepth 100000 in
theorem am_okc145_0 : am_L145_0.all (fun ch => ch.all (fun p => am_ok am_d145 p.1 p.2)) = true := by decide +kernel
set_option maxRecDepth 100000 in
theorem am_okc145_1 : am_L145_1.all (fun ch => ch.all (fun p => am_ok am_d145 p.1 p.2)) = true := by decide +kernel
set_option maxRecDepth 100000 in
theorem am_okd145 : am_okd am_d145 = true := by decide +kernel
theorem am_ok145 : am_okm am_d145 = true := am_okmk am_okd145 (am_alla am_okc145_0 am_okc145_1)
set_option maxRecDepth 100000 in
theorem am_okc146_0 : am_L146_0.all (fun ch => ch.all (fun p => am_ok am_d146 p.1 p.2)) = true := by decide +kernel
set_option maxRecDepth 100000 in
theorem am_okd146 : am_okd am_d146 = true := by decide +kernel
theorem am_ok146 : am_okm am_d146 = true := am_okmk am_okd146 am_okc146_0
set_option maxRecDepth 100000 in
theorem am_okc147_0 : am_L147_0.all (fun ch => ch.all (fun p => am_ok am_d147 p.1 p.2)) = true := by decide +kernel
set_option maxRecDepth 100000 in
theorem am_okd147 : am_okd am_d147 = true := by decide +kernel
theorem am_ok147 : am_okm am_d147 = true := am_okmk am_okd147 am_okc147_0
set_option maxRecDepth 100000 in
theorem am_okc148_0 : am_L148_0.all (fun ch => ch.all (fun p => am_ok am_d148 p.1 p.2)) = true := by decide +kernel
set_option maxRecDepth 100000 in
theorem am_okd148 : am_okd am_d148 = true := by decide +kernel
theorem am_ok148 : am_okm am_d148 = true := am_okmk am_okd148 am_okc148_0
set_option maxRecDepth 100000 in
theorem am_okc149_0 : am_L149_0.all (fun ch => ch.all (fun p => am_ok am_d149 p.1 p.2)) = true := by decide +kernel
set_option maxRecDepth 100000 in
theorem am_okd149 : am_okd am_d149 = true := by decide +kernel
theorem am_ok149 : am_okm am_d149 = true := am_okmk am_okd149 am_okc149_0
set_option maxRecDepth 100000 in
theorem am_okc150_0 : am_L150_0.all (fun ch => ch.all (fun p => am_ok am_d150 p.1 p.2)) = true := by decide +kernel
set_option maxRecDepth 100000 in
theorem am_okd150 : am_okd am_d150 = true := by decide +kernel
theorem am_ok150 : am_okm am_d150 = true := am_okmk am_okd150 am_okc150_0
set_option maxRecDepth 100000 in
theorem am_okc151_0 : am_L151_0.all (fun ch => ch.all (fun p => am_ok am_d151 p.1 p.2)) = true := by decide +kernel
set_option maxRecDepth 100000 in
theorem am_okd151 : am_okd am_d151 = true := by decide +kernel
theorem am_ok151 : am_okm am_d151 = true := am_okmk am_okd151 am_okc151_0
set_option maxRecDepth 100000 in
theorem am_okc152_0 : am_L152_0.all (fun ch => ch.all (fun p => am_ok am_d152 p.1 p.2)) = true := by decide +kernel
set_option maxRecDepth 100000 in
theorem am_okc152_1 : am_L152_1.all (fun ch => ch.all (fun p => am_ok am_d152 p.1 p.2)) = true := by decide +kernel
set_option maxRecDepth 100000 in
theorem am_okc152_2 : am_L152_2.all (fun ch => ch.all (fun p => am_ok am_d152 p.1 p.2)) = true := by decide +kernel
set_option maxRecDepth 100000 in
theorem am_okd152 : am_okd am_d152 = true := by decide +kernel
theorem am_ok152 : am_okm am_d152 = true := am_okmk am_okd152 (am_alla am_okc152_0 (am_alla am_okc152_1 am_okc152_2))
set_option maxRecDepth 100000 in
theorem am_okc153_0 : am_L153_0.all (fun ch => ch.all (fun p => am_ok am_d153 p.1 p.2)) = true := by decide +kernel
set_option maxRecDepth 100000 in
theorem am_okd153 : am_okd am_d153 = true := by decide +kernel
theorem am_ok153 : am_okm am_d153 = true := am_okmk am_okd153 am_okc153_0
set_option maxRecDepth 100000 in
theorem am_okc154_0 : am_L154_0.all (fun ch => ch.all (fun p => am_ok am_d154 p.1 p.2)) = true := by decide +kernel
set_option maxRecDepth 100000 in
theorem am_okd154 : am_okd am_d154 = true := by decide +kernel
theorem am_ok154 : am_okm am_d154 = true := am_okmk am_okd154 am_okc154_0
set_option maxRecDepth 100000 in
theorem am_okc155_0 : am_L155_0.all (fun ch => ch.all (fun p => am_ok am_d155 p.1 p.2)) = true := by decide +kernel
set_option maxRecDepth 100000 in
theorem am_okd155 : am_okd am_d155 = true := by decide +kernel
theorem am_ok155 : am_okm am_d155 = true := am_okmk am_okd155 am_okc155_0
set_option maxRecDepth 100000 in
theorem am_okc156_0 : am_L156_0.all (fun ch => ch.all (fun p => am_ok am_d156 p.1 p.2)) = true := by decide +kernel
set_option maxRecDepth 100000 in
theorem am_okd156 : am_okd am_d156 = true := by decide +kernel
theorem am_ok156 : am_okm am_d156 = true := am_okmk am_okd156 am_okc156_0
set_option maxRecDepth 100000 in
theorem am_okc157_0 : am_L157_0.all (fun ch => ch.all (fun p => am_ok am_d157 p.1 p.2)) = true := by decide +kernel
set_option maxRecDepth 100000 in
theorem am_okd157 : am_okd am_d157 = true := by decide +kernel
theorem am_ok157 : am_okm am_d157 = true := am_okmk am_okd157 am_okc157_0
set_option maxRecDepth 100000 in
theorem am_okc158_0 : am_L158_0.all (fun ch => ch.all (fun p => am_ok am_d158 p.1 p.2)) = true := by decide +kernel
set_option maxRecDepth 100000 in
theorem am_okd158 : am_okd am_d158 = true := by decide +kernel
theorem am_ok158 : am_okm am_d158 = true := am_okmk am_okd158 am_okc158_0
set_option maxRecDepth 100000 in
theorem am_okc159_0 : am_L159_0.all (fun ch => ch.all (fun p => am_ok am_d159 p.1 p.2)) = true := by decide +kernel
set_option maxRecDepth 100000 in
theorem am_okd159 : am_okd am_d159 = true := by decide +kernel
theorem am_ok159 : am_okm am_d159 = true := am_okmk am_okd159 am_okc159_0
set_option maxRecDepth 100000 in
theorem am_okc160_0 : am_L160_0.all (fun ch => ch.all (fun p => am_ok am_d160 p.1 p.2)) = true := by decide +kernel
set_option maxRecDepth 100000 in
theorem am_okd160 : am_okd am_d160 = true := by decide +kernel
theorem am_ok160 : am_okm am_d160 = true := am_okmk am_okd160 am_okc160_0
set_option maxRecDepth 100000 in
theorem am_okc161_0 : am_L161_0.all (fun ch => ch.all (fun p => am_ok am_d161 p.1 p.2)) = true := by decide +kernel
set_option maxRecDepth 100000 in
theorem am_okd161 : am_okd am_d161 = true := by decide +kernel
theorem am_ok161 : am_okm am_d161 = true := am_okmk am_okd161 am_okc161_0
set_option maxRecDepth 100000 in
theorem am_okc162_0 : am_L162_0.all (fun ch => ch.all (fun p => am_ok am_d162 p.1 p.2)) = true := by decide +kernel
set_option maxRecDepth 100000 in
theorem am_okd162 : am_okd am_d162 = true := by decide +kernel
theorem am_ok162 : am_okm am_d162 = true := am_okmk am_okd162 am_okc162_0
set_option maxRecDepth 100000 in
theorem am_okc163_0 : am_L163_0.all (fun ch => ch.all (fun p => am_ok am_d163 p.1 p.2)) = true := by decide +kernel
set_option maxRecDepth 100000 in
theorem am_okd163 : am_okd am_d163 = true := by decide +kernel
theorem am_ok163 : am_okm am_d163 = true := am_okmk am_okd163 am_okc163_0
set_option maxRecDepth 100000 in
theorem am_okc164_0 : am_L164_0.all (fun ch => ch.all (fun p => am_ok am_d164 p.1 p.2)) = true := by decide +kernel
set_option maxRecDepth 100000 in
theorem am_okd164 : am_okd am_d164 = true := by decide +kernel
theorem am_ok164 : am_okm am_d164 = true := am_okmk am_okd164 am_okc164_0
set_option maxRecDepth 100000 in
theorem am_okc165_0 : am_L165_0.all (fun ch => ch.all (fun p => am_ok am_d165 p.1 p.2)) = true := by decide +kernel
set_option maxRecDepth 100000 in
theorem am_okd165 : am_okd am_d165 = true := by decide +kernel
theorem am_ok165 : am_okm am_d165 = true := am_okmk am_okd165 am_okc165_0
set_option maxRecDepth 100000 in
theorem am_okc166_0 : am_L166_0.all (fun ch => ch.all (fun p => am_ok am_d166 p.1 p.2)) = true := by decide +kernel
set_option maxRecDepth 100000 in
theorem am_okd166 : am_okd am_d166 = true := by decide +kernel
theorem am_ok166 : am_okm am_d166 = true := am_okmk am_okd166 am_okc166_0
set_option maxRecDepth 100000 in
theorem am_okc167_0 : am_L167_0.all (fun ch => ch.all (fun p => am_ok am_d167 p.1 p.2)) = true := by decide +kernel
set_option maxRecDepth 100000 in
theorem am_okd167 : am_okd am_d167 = true := by decide +kernel
theorem am_ok167 : am_okm am_d167 = true := am_okmk am_okd167 am_okc167_0
set_option maxRecDepth 100000 in
theorem am_okc168_0 : am_L168_0.all (fun ch => ch.all (fun p => am_ok am_d168 p.1 p.2)) = true := by decide +kernel
set_option maxRecDepth 100000 in
theorem am_okd168 : am_okd am_d168 = true := by decide +kernel
theorem am_ok168 : am_okm am_d168 = true := am_okmk am_okd168 am_okc168_0
set_option maxRecDepth 100000 in
theorem am_okc169_0 : am_L169_0.all (fun ch => ch.all (fun p => am_ok am_d169 p.1 p.2)) = true := by decide +kernel
set_option maxRecDepth 100000 in
theorem am_okc169_1 : am_L169_1.all (fun ch => ch.all (fun p => am_ok am_d169 p.1 p.2)) = true := by decide +kernel
set_option maxRecDepth 100000 in
theorem am_okd169 : am_okd am_d169 = true := by decide +kernel
theorem am_ok169 : am_okm am_d169 = true := am_okmk am_okd169 (am_alla am_okc169_0 am_okc169_1)
set_option maxRecDepth 100000 in
theorem am_okc170_0 : am_L170_0.all (fun ch => ch.all (fun p => am_ok am_d170 p.1 p.2)) = true := by decide +kernel
set_option maxRecDepth 100000 in
theorem am_okd170 : am_okd am_d170 = true := by decide +kernel
theorem am_ok170 : am_okm am_d170 = true := am_okmk am_okd170 am_okc170_0
set_option maxRecDepth 100000 in
theorem am_okc171_0 : am_L171_0.all (fun ch => ch.all (fun p => am_ok am_d171 p.1 p.2)) = true := by decide +kernel
set_option maxRecDepth 100000 in
theorem am_okd171 : am_okd am_d171 = true := by decide +kernel
theorem am_ok171 : am_okm am_d171 = true := am_okmk am_okd171 am_okc171_0
set_option maxRecDepth 100000 in
theorem am_okc172_0 : am_L172_0.all (fun ch => ch.all (fun p => am_ok am_d172 p.1 p.2)) = true := by decide +kernel
set_option maxRecDepth 100000 in
theorem am_okd172 : am_okd am_d172 = true := by decide +kernel
theorem am_ok172 : am_okm am_d172 = true := am_okmk am_okd172 am_okc172_0
set_option maxRecDepth 100000 in
theorem am_okc173_0 : am_L173_0.all (fun ch => ch.all (fun p => am_ok am_d173 p.1 p.2)) = true := by decide +kernel
set_option maxRecDepth 100000 in
theorem am_okd173 : am_okd am_d173 = true := by decide +kernel
theorem am_ok173 : am_okm am_d173 = true := am_okmk am_okd173 am_okc173_0
set_option maxRecDepth 100000 in
theorem am_okc174_0 : am_L174_0.all (fun ch => ch.all (fun p => am_ok am_d174 p.1 p.2)) = true := by decide +kernel
set_option maxRecDepth 100000 in
theorem am_okd174 : am_okd am_d174 = true := by decide +kernel
theorem am_ok174 : am_okm am_d174 = true := am_okmk am_okd174 am_okc174_0
set_option maxRecDepth 100000 in
theorem am_okc175_0 : am_L175_0.all (fun ch => ch.all (fun p => am_ok am_d175 p.1 p.2)) = true := by decide +kernel
set_option maxRecDepth 100000 in
theorem am_okd175 : am_okd am_d175 = true := by decide +kernel
theorem am_ok175 : am_okm am_d175 = true := am_okmk am_okd175 am_okc175_0
set_option maxRecDepth 100000 in
theorem am_okc176_0 : am_L176_0.all (fun ch => ch.all (fun p => am_ok am_d176 p.1 p.2)) = true := by decide +kernel
set_option maxRecDepth 100000 in
theorem am_okd176 : am_okd am_d176 = true := by decide +kernel
theorem am_ok176 : am_okm am_d176 = true := am_okmk am_okd176 am_okc176_0
set_option maxRecDepth 100000 in
theorem am_okc177_0 : am_L177_0.all (fun ch => ch.all (fun p => am_ok am_d177 p.1 p.2)) = true := by decide +kernel
set_option maxRecDepth 100000 in
theorem am_okd177 : am_okd am_d177 = true := by decide +kernel
theorem am_ok177 : am_okm am_d177 = true := am_okmk am_okd177 am_okc177_0
set_option maxRecDepth 100000 in
theorem am_okc178_0 : am_L178_0.all (fun ch => ch.all (fun p => am_ok am_d178 p.1 p.2)) = true := by decide +kernel
set_option maxRecDepth 100000 in
theorem am_okd178 : am_okd am_d178 = true := by decide +kernel
theorem am_ok178 : am_okm am_d178 = true := am_okmk am_okd178 am_okc178_0
