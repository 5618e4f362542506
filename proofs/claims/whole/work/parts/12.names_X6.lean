theorem dX6_read_169 : decode cX6_read 169 = .ok (.bipush 20, 2) := by decide +kernel
theorem dX6_read_171 : decode cX6_read 171 = .ok (.bipush 12, 2) := by decide +kernel
theorem dX6_read_173 : decode cX6_read 173 = .ok (.bipush 13, 2) := by decide +kernel
theorem dX6_read_175 : decode cX6_read 175 = .ok (.invokevirtual 74, 3) := by decide +kernel
theorem dX6_read_178 : decode cX6_read 178 = .ok (.iinc 4 1, 3) := by decide +kernel
theorem dX6_read_181 : decode cX6_read 181 = .ok (.goto (-46), 3) := by decide +kernel
theorem dX6_read_184 : decode cX6_read 184 = .ok (.aload_n 0, 1) := by decide +kernel
theorem dX6_read_185 : decode cX6_read 185 = .ok (.getfield 16, 3) := by decide +kernel
theorem dX6_read_188 : decode cX6_read 188 = .ok (.bipush 20, 2) := by decide +kernel
theorem dX6_read_190 : decode cX6_read 190 = .ok (.iload_n 3, 1) := by decide +kernel
theorem dX6_read_191 : decode cX6_read 191 = .ok (.iconst 1, 1) := by decide +kernel
theorem dX6_read_192 : decode cX6_read 192 = .ok (.if_icmp .ne 28, 3) := by decide +kernel
theorem dX6_read_195 : decode cX6_read 195 = .ok (.aload_n 0, 1) := by decide +kernel
theorem dX6_read_196 : decode cX6_read 196 = .ok (.getfield 23, 3) := by decide +kernel
theorem dX6_read_199 : decode cX6_read 199 = .ok (.iconst 0, 1) := by decide +kernel
theorem dX6_read_200 : decode cX6_read 200 = .ok (.iaload, 1) := by decide +kernel
theorem dX6_read_201 : decode cX6_read 201 = .ok (.bipush 45, 2) := by decide +kernel
theorem dX6_read_203 : decode cX6_read 203 = .ok (.if_icmp .ne 17, 3) := by decide +kernel
theorem dX6_read_206 : decode cX6_read 206 = .ok (.aload_n 0, 1) := by decide +kernel
theorem dX6_read_207 : decode cX6_read 207 = .ok (.getfield 13, 3) := by decide +kernel
theorem dX6_read_210 : decode cX6_read 210 = .ok (.bipush 20, 2) := by decide +kernel
theorem dX6_read_212 : decode cX6_read 212 = .ok (.iaload, 1) := by decide +kernel
theorem dX6_read_213 : decode cX6_read 213 = .ok (.ifCond .le 7, 3) := by decide +kernel
theorem dX6_read_216 : decode cX6_read 216 = .ok (.iconst 1, 1) := by decide +kernel
theorem dX6_read_217 : decode cX6_read 217 = .ok (.goto 4, 3) := by decide +kernel
theorem dX6_read_220 : decode cX6_read 220 = .ok (.iconst 0, 1) := by decide +kernel
theorem dX6_read_221 : decode cX6_read 221 = .ok (.bastore, 1) := by decide +kernel
theorem dX6_read_222 : decode cX6_read 222 = .ok (.aload_n 0, 1) := by decide +kernel
theorem dX6_read_223 : decode cX6_read 223 = .ok (.iload_n 1, 1) := by decide +kernel
theorem dX6_read_224 : decode cX6_read 224 = .ok (.bipush 20, 2) := by decide +kernel
theorem dX6_read_226 : decode cX6_read 226 = .ok (.invokevirtual 69, 3) := by decide +kernel
theorem dX6_read_229 : decode cX6_read 229 = .ok (.ireturn, 1) := by decide +kernel
