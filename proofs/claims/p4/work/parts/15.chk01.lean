set_option maxRecDepth 1000000 in
theorem md_k130 : mm_chkM 130 md_L130 = true := by decide +kernel
set_option maxRecDepth 1000000 in
theorem md_k131 : mm_chkM 131 md_L131 = true := by decide +kernel
set_option maxRecDepth 1000000 in
theorem md_k132 : mm_chkM 132 md_L132 = true := by decide +kernel
set_option maxRecDepth 1000000 in
theorem md_k133 : mm_chkM 133 md_L133 = true := by decide +kernel
set_option maxRecDepth 1000000 in
theorem md_k134 : mm_chkM 134 md_L134 = true := by decide +kernel
set_option maxRecDepth 1000000 in
theorem md_k135 : mm_chkM 135 md_L135 = true := by decide +kernel
set_option maxRecDepth 1000000 in
theorem md_k136 : mm_chkM 136 md_L136 = true := by decide +kernel
set_option maxRecDepth 1000000 in
theorem md_k137 : mm_chkM 137 md_L137 = true := by decide +kernel
set_option maxRecDepth 1000000 in
theorem md_k138 : mm_chkM 138 md_L138 = true := by decide +kernel
set_option maxRecDepth 1000000 in
theorem md_k139 : mm_chkM 139 md_L139 = true := by decide +kernel
set_option maxRecDepth 1000000 in
theorem md_k140 : mm_chkM 140 md_L140 = true := by decide +kernel
set_option maxRecDepth 1000000 in
theorem md_k141 : mm_chkM 141 md_L141 = true := by decide +kernel
set_option maxRecDepth 1000000 in
theorem md_k142 : mm_chkM 142 md_L142 = true := by decide +kernel
set_option maxRecDepth 1000000 in
theorem md_k143 : mm_chkM 143 md_L143 = true := by decide +kernel
set_option maxRecDepth 1000000 in
theorem md_k144 : mm_chkM 144 md_L144 = true := by decide +kernel
set_option maxRecDepth 1000000 in
theorem md_k145 : mm_chkM 145 md_L145 = true := by decide +kernel
set_option maxRecDepth 1000000 in
theorem md_k146 : mm_chkM 146 md_L146 = true := by decide +kernel
set_option maxRecDepth 1000000 in
theorem md_k147 : mm_chkM 147 md_L147 = true := by decide +kernel
set_option maxRecDepth 1000000 in
theorem md_k148 : mm_chkM 148 md_L148 = true := by decide +kernel
set_option maxRecDepth 1000000 in
theorem md_k149 : mm_chkM 149 md_L149 = true := by decide +kernel
set_option maxRecDepth 1000000 in
theorem md_k150 : mm_chkM 150 md_L150 = true := by decide +kernel
set_option maxRecDepth 1000000 in
theorem md_k151 : mm_chkM 151 md_L151 = true := by decide +kernel
set_option maxRecDepth 1000000 in
theorem md_k152 : mm_chkM 152 md_L152 = true := by decide +kernel
set_option maxRecDepth 1000000 in
theorem md_k153 : mm_chkM 153 md_L153 = true := by decide +kernel
set_option maxRecDepth 1000000 in
theorem md_k154 : mm_chkM 154 md_L154 = true := by decide +kernel
set_option maxRecDepth 1000000 in
theorem md_k155 : mm_chkM 155 md_L155 = true := by decide +kernel
set_option maxRecDepth 1000000 in
theorem md_k156 : mm_chkM 156 md_L156 = true := by decide +kernel
set_option maxRecDepth 1000000 in
theorem md_k157 : mm_chkM 157 md_L157 = true := by decide +kernel
set_option maxRecDepth 1000000 in
theorem md_k158 : mm_chkM 158 md_L158 = true := by decide +kernel
set_option maxRecDepth 1000000 in
theorem md_k159 : mm_chkM 159 md_L159 = true := by decide +kernel
set_option maxRecDepth 1000000 in
theorem md_k160 : mm_chkM 160 md_L160 = true := by decide +kernel
set_option maxRecDepth 1000000 in
theorem md_k161 : mm_chkM 161 md_L161 = true := by decide +kernel
set_option maxRecDepth 1000000 in
theorem md_k162 : mm_chkM 162 md_L162 = true := by decide +kernel
set_option maxRecDepth 1000000 in
theorem md_k163 : mm_chkM 163 md_L163 = true := by decide +kernel
set_option maxRecDepth 1000000 in
theorem md_k164 : mm_chkM 164 md_L164 = true := by decide +kernel
set_option maxRecDepth 1000000 in
theorem md_k165 : mm_chkM 165 md_L165 = true := by decide +kernel
set_option maxRecDepth 1000000 in
theorem md_k166 : mm_chkM 166 md_L166 = true := by decide +kernel
set_option maxRecDepth 1000000 in
theorem md_k167 : mm_chkM 167 md_L167 = true := by decide +kernel
set_option maxRecDepth 1000000 in
theorem md_k168 : mm_chkM 168 md_L168 = true := by decide +kernel
set_option maxRecDepth 1000000 in
theorem md_k169 : mm_chkM 169 md_L169 = true := by decide +kernel
set_option maxRecDepth 1000000 in
theorem md_k170 : mm_chkM 170 md_L170 = true := by decide +kernel
set_option maxRecDepth 1000000 in
theorem md_k171 : mm_chkM 171 md_L171 = true := by decide +kernel
set_option maxRecDepth 1000000 in
theorem md_k172 : mm_chkM 172 md_L172 = true := by decide +kernel
set_option maxRecDepth 1000000 in
theorem md_k173 : mm_chkM 173 md_L173 = true := by decide +kernel
set_option maxRecDepth 1000000 in
theorem md_k174 : mm_chkM 174 md_L174 = true := by decide +kernel
set_option maxRecDepth 1000000 in
theorem md_k175 : mm_chkM 175 md_L175 = true := by decide +kernel
set_option maxRecDepth 1000000 in
theorem md_k176 : mm_chkM 176 md_L176 = true := by decide +kernel
set_option maxRecDepth 1000000 in
theorem md_k177 : mm_chkM 177 md_L177 = true := by decide +kernel
set_option maxRecDepth 1000000 in
theorem md_k178 : mm_chkM 178 md_L178 = true := by decide +kernel
set_option maxRecDepth 1000000 in
theorem md_k179 : mm_chkM 179 md_L179 = true := by decide +kernel
set_option maxRecDepth 1000000 in
theorem md_k180 : mm_chkM 180 md_L180 = true := by decide +kernel
set_option maxRecDepth 1000000 in
theorem md_k181 : mm_chkM 181 md_L181 = true := by decide +kernel
set_option maxRecDepth 1000000 in
theorem md_k182 : mm_chkM 182 md_L182 = true := by decide +kernel
set_option maxRecDepth 1000000 in
theorem md_k183 : mm_chkM 183 md_L183 = true := by decide +kernel
set_option maxRecDepth 1000000 in
theorem md_k184 : mm_chkM 184 md_L184 = true := by decide +kernel
set_option maxRecDepth 1000000 in
theorem md_k185 : mm_chkM 185 md_L185 = true := by decide +kernel
set_option maxRecDepth 1000000 in
theorem md_k186 : mm_chkM 186 md_L186 = true := by decide +kernel
set_option maxRecDepth 1000000 in
theorem md_k187 : mm_chkM 187 md_L187 = true := by decide +kernel
set_option maxRecDepth 1000000 in
theorem md_k188 : mm_chkM 188 md_L188 = true := by decide +kernel
set_option maxRecDepth 1000000 in
theorem md_k189 : mm_chkM 189 md_L189 = true := by decide +kernel
set_option maxRecDepth 1000000 in
theorem md_k190 : mm_chkM 190 md_L190 = true := by decide +kernel
set_option maxRecDepth 1000000 in
theorem md_k191 : mm_chkM 191 md_L191 = true := by decide +kernel
set_option maxRecDepth 1000000 in
theorem md_k192 : mm_chkM 192 md_L192 = true := by decide +kernel
set_option maxRecDepth 1000000 in
theorem md_k193 : mm_chkM 193 md_L193 = true := by decide +kernel
set_option maxRecDepth 1000000 in
theorem md_k194 : mm_chkM 194 md_L194 = true := by decide +kernel
set_option maxRecDepth 1000000 in
theorem md_k195 : mm_chkM 195 md_L195 = true := by decide +kernel
