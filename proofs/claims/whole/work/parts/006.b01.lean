theorem d_law_law_142 : decode code 142 = .ok (.iadd, 1) := by decide +kernel
theorem d_law_law_143 : decode code 143 = .ok (.iaload, 1) := by decide +kernel
theorem d_law_law_144 : decode code 144 = .ok (.aload_n 0, 1) := by decide +kernel
theorem d_law_law_145 : decode code 145 = .ok (.iload_n 3, 1) := by decide +kernel
theorem d_law_law_146 : decode code 146 = .ok (.iconst 2, 1) := by decide +kernel
theorem d_law_law_147 : decode code 147 = .ok (.iadd, 1) := by decide +kernel
theorem d_law_law_148 : decode code 148 = .ok (.iaload, 1) := by decide +kernel
theorem d_law_law_149 : decode code 149 = .ok (.aload_n 0, 1) := by decide +kernel
theorem d_law_law_150 : decode code 150 = .ok (.iload_n 3, 1) := by decide +kernel
theorem d_law_law_151 : decode code 151 = .ok (.iconst 3, 1) := by decide +kernel
theorem d_law_law_152 : decode code 152 = .ok (.iadd, 1) := by decide +kernel
theorem d_law_law_153 : decode code 153 = .ok (.iaload, 1) := by decide +kernel
theorem d_law_law_154 : decode code 154 = .ok (.aload_n 0, 1) := by decide +kernel
theorem d_law_law_155 : decode code 155 = .ok (.iload_n 3, 1) := by decide +kernel
theorem d_law_law_156 : decode code 156 = .ok (.iconst 4, 1) := by decide +kernel
theorem d_law_law_157 : decode code 157 = .ok (.iadd, 1) := by decide +kernel
theorem d_law_law_158 : decode code 158 = .ok (.iaload, 1) := by decide +kernel
theorem d_law_law_159 : decode code 159 = .ok (.aload_n 0, 1) := by decide +kernel
theorem d_law_law_160 : decode code 160 = .ok (.iload_n 3, 1) := by decide +kernel
theorem d_law_law_161 : decode code 161 = .ok (.iconst 5, 1) := by decide +kernel
theorem d_law_law_162 : decode code 162 = .ok (.iadd, 1) := by decide +kernel
theorem d_law_law_163 : decode code 163 = .ok (.iaload, 1) := by decide +kernel
theorem d_law_law_164 : decode code 164 = .ok (.invokevirtual 22, 3) := by decide +kernel
theorem d_law_law_167 : decode code 167 = .ok (.if_icmp .eq 315, 3) := by decide +kernel
theorem d_law_law_170 : decode code 170 = .ok (.iconst 0, 1) := by decide +kernel
theorem d_law_law_171 : decode code 171 = .ok (.ireturn, 1) := by decide +kernel
theorem d_law_law_172 : decode code 172 = .ok (.aload_n 1, 1) := by decide +kernel
theorem d_law_law_173 : decode code 173 = .ok (.invokevirtual 23, 3) := by decide +kernel
theorem d_law_law_176 : decode code 176 = .ok (.aload_n 2, 1) := by decide +kernel
theorem d_law_law_177 : decode code 177 = .ok (.invokevirtual 26, 3) := by decide +kernel
theorem d_law_law_180 : decode code 180 = .ok (.if_icmp .eq 302, 3) := by decide +kernel
theorem d_law_law_183 : decode code 183 = .ok (.iconst 0, 1) := by decide +kernel
theorem d_law_law_184 : decode code 184 = .ok (.ireturn, 1) := by decide +kernel
theorem d_law_law_185 : decode code 185 = .ok (.aload_n 1, 1) := by decide +kernel
theorem d_law_law_186 : decode code 186 = .ok (.aload_n 0, 1) := by decide +kernel
theorem d_law_law_187 : decode code 187 = .ok (.iload_n 3, 1) := by decide +kernel
theorem d_law_law_188 : decode code 188 = .ok (.iconst 1, 1) := by decide +kernel
theorem d_law_law_189 : decode code 189 = .ok (.iadd, 1) := by decide +kernel
theorem d_law_law_190 : decode code 190 = .ok (.iaload, 1) := by decide +kernel
theorem d_law_law_191 : decode code 191 = .ok (.invokevirtual 27, 3) := by decide +kernel
theorem d_law_law_194 : decode code 194 = .ok (.aload_n 2, 1) := by decide +kernel
theorem d_law_law_195 : decode code 195 = .ok (.aload_n 0, 1) := by decide +kernel
theorem d_law_law_196 : decode code 196 = .ok (.iload_n 3, 1) := by decide +kernel
theorem d_law_law_197 : decode code 197 = .ok (.iconst 1, 1) := by decide +kernel
theorem d_law_law_198 : decode code 198 = .ok (.iadd, 1) := by decide +kernel
theorem d_law_law_199 : decode code 199 = .ok (.iaload, 1) := by decide +kernel
theorem d_law_law_200 : decode code 200 = .ok (.invokevirtual 31, 3) := by decide +kernel
theorem d_law_law_203 : decode code 203 = .ok (.if_icmp .eq 279, 3) := by decide +kernel
theorem d_law_law_206 : decode code 206 = .ok (.iconst 0, 1) := by decide +kernel
theorem d_law_law_207 : decode code 207 = .ok (.ireturn, 1) := by decide +kernel
theorem d_law_law_208 : decode code 208 = .ok (.aload_n 1, 1) := by decide +kernel
theorem d_law_law_209 : decode code 209 = .ok (.aload_n 0, 1) := by decide +kernel
theorem d_law_law_210 : decode code 210 = .ok (.iload_n 3, 1) := by decide +kernel
theorem d_law_law_211 : decode code 211 = .ok (.iconst 1, 1) := by decide +kernel
theorem d_law_law_212 : decode code 212 = .ok (.iadd, 1) := by decide +kernel
theorem d_law_law_213 : decode code 213 = .ok (.iaload, 1) := by decide +kernel
theorem d_law_law_214 : decode code 214 = .ok (.aload_n 0, 1) := by decide +kernel
theorem d_law_law_215 : decode code 215 = .ok (.iload_n 3, 1) := by decide +kernel
theorem d_law_law_216 : decode code 216 = .ok (.iconst 2, 1) := by decide +kernel
theorem d_law_law_217 : decode code 217 = .ok (.iadd, 1) := by decide +kernel
