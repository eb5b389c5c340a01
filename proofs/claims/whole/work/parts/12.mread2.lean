theorem dM_net_0 : decode prog_6_method_32_code 0 = .ok (.aload_n 0, 1) := by decide +kernel
theorem dM_net_1 : decode prog_6_method_32_code 1 = .ok (.iload_n 1, 1) := by decide +kernel
theorem dM_net_2 : decode prog_6_method_32_code 2 = .ok (.invokevirtual 163, 3) := by decide +kernel
theorem dM_net_5 : decode prog_6_method_32_code 5 = .ok (.ifCond .ne 5, 3) := by decide +kernel
theorem dM_net_8 : decode prog_6_method_32_code 8 = .ok (.lconst 0, 1) := by decide +kernel
theorem dM_net_9 : decode prog_6_method_32_code 9 = .ok (.lreturn, 1) := by decide +kernel
theorem dM_net_10 : decode prog_6_method_32_code 10 = .ok (.iload_n 1, 1) := by decide +kernel
theorem dM_net_11 : decode prog_6_method_32_code 11 = .ok (.aload_n 0, 1) := by decide +kernel
theorem dM_net_12 : decode prog_6_method_32_code 12 = .ok (.getfield 66, 3) := by decide +kernel
theorem dM_net_15 : decode prog_6_method_32_code 15 = .ok (.aload_n 0, 1) := by decide +kernel
theorem dM_net_16 : decode prog_6_method_32_code 16 = .ok (.getfield 69, 3) := by decide +kernel
theorem dM_net_19 : decode prog_6_method_32_code 19 = .ok (.imul, 1) := by decide +kernel
theorem dM_net_20 : decode prog_6_method_32_code 20 = .ok (.if_icmp .lt 7, 3) := by decide +kernel
theorem dM_net_23 : decode prog_6_method_32_code 23 = .ok (.iconst 1, 1) := by decide +kernel
theorem dM_net_24 : decode prog_6_method_32_code 24 = .ok (.goto 4, 3) := by decide +kernel
theorem dM_net_27 : decode prog_6_method_32_code 27 = .ok (.iconst 0, 1) := by decide +kernel
theorem dM_net_28 : decode prog_6_method_32_code 28 = .ok (.istore_n 2, 1) := by decide +kernel
theorem dM_net_29 : decode prog_6_method_32_code 29 = .ok (.iload_n 2, 1) := by decide +kernel
theorem dM_net_30 : decode prog_6_method_32_code 30 = .ok (.ifCond .eq 16, 3) := by decide +kernel
theorem dM_net_33 : decode prog_6_method_32_code 33 = .ok (.aload_n 0, 1) := by decide +kernel
theorem dM_net_34 : decode prog_6_method_32_code 34 = .ok (.iload_n 1, 1) := by decide +kernel
theorem dM_net_35 : decode prog_6_method_32_code 35 = .ok (.invokevirtual 112, 3) := by decide +kernel
theorem dM_net_38 : decode prog_6_method_32_code 38 = .ok (.aload_n 0, 1) := by decide +kernel
theorem dM_net_39 : decode prog_6_method_32_code 39 = .ok (.getfield 66, 3) := by decide +kernel
theorem dM_net_42 : decode prog_6_method_32_code 42 = .ok (.idiv, 1) := by decide +kernel
theorem dM_net_43 : decode prog_6_method_32_code 43 = .ok (.goto 9, 3) := by decide +kernel
theorem dM_net_46 : decode prog_6_method_32_code 46 = .ok (.iload_n 1, 1) := by decide +kernel
theorem dM_net_47 : decode prog_6_method_32_code 47 = .ok (.aload_n 0, 1) := by decide +kernel
theorem dM_net_48 : decode prog_6_method_32_code 48 = .ok (.getfield 69, 3) := by decide +kernel
theorem dM_net_51 : decode prog_6_method_32_code 51 = .ok (.idiv, 1) := by decide +kernel
theorem dM_net_52 : decode prog_6_method_32_code 52 = .ok (.istore_n 3, 1) := by decide +kernel
theorem dM_net_53 : decode prog_6_method_32_code 53 = .ok (.iload_n 2, 1) := by decide +kernel
theorem dM_net_54 : decode prog_6_method_32_code 54 = .ok (.ifCond .eq 16, 3) := by decide +kernel
theorem dM_net_57 : decode prog_6_method_32_code 57 = .ok (.aload_n 0, 1) := by decide +kernel
theorem dM_net_58 : decode prog_6_method_32_code 58 = .ok (.iload_n 1, 1) := by decide +kernel
theorem dM_net_59 : decode prog_6_method_32_code 59 = .ok (.invokevirtual 112, 3) := by decide +kernel
theorem dM_net_62 : decode prog_6_method_32_code 62 = .ok (.aload_n 0, 1) := by decide +kernel
theorem dM_net_63 : decode prog_6_method_32_code 63 = .ok (.getfield 66, 3) := by decide +kernel
theorem dM_net_66 : decode prog_6_method_32_code 66 = .ok (.irem, 1) := by decide +kernel
theorem dM_net_67 : decode prog_6_method_32_code 67 = .ok (.goto 4, 3) := by decide +kernel
theorem dM_net_70 : decode prog_6_method_32_code 70 = .ok (.iconst (-1), 1) := by decide +kernel
theorem dM_net_71 : decode prog_6_method_32_code 71 = .ok (.istore 4, 2) := by decide +kernel
theorem dM_net_73 : decode prog_6_method_32_code 73 = .ok (.lconst 0, 1) := by decide +kernel
theorem dM_net_74 : decode prog_6_method_32_code 74 = .ok (.lstore 5, 2) := by decide +kernel
theorem dM_net_76 : decode prog_6_method_32_code 76 = .ok (.iconst 0, 1) := by decide +kernel
theorem dM_net_77 : decode prog_6_method_32_code 77 = .ok (.istore 7, 2) := by decide +kernel
theorem dM_net_79 : decode prog_6_method_32_code 79 = .ok (.iload 7, 2) := by decide +kernel
theorem dM_net_81 : decode prog_6_method_32_code 81 = .ok (.aload_n 0, 1) := by decide +kernel
theorem dM_net_82 : decode prog_6_method_32_code 82 = .ok (.getfield 160, 3) := by decide +kernel
theorem dM_net_85 : decode prog_6_method_32_code 85 = .ok (.if_icmp .ge 156, 3) := by decide +kernel
theorem dM_net_88 : decode prog_6_method_32_code 88 = .ok (.iload_n 2, 1) := by decide +kernel
theorem dM_net_89 : decode prog_6_method_32_code 89 = .ok (.ifCond .eq 25, 3) := by decide +kernel
theorem dM_net_92 : decode prog_6_method_32_code 92 = .ok (.aload_n 0, 1) := by decide +kernel
theorem dM_net_93 : decode prog_6_method_32_code 93 = .ok (.getfield 60, 3) := by decide +kernel
theorem dM_net_96 : decode prog_6_method_32_code 96 = .ok (.iload 7, 2) := by decide +kernel
theorem dM_net_98 : decode prog_6_method_32_code 98 = .ok (.iaload, 1) := by decide +kernel
theorem dM_net_99 : decode prog_6_method_32_code 99 = .ok (.aload_n 0, 1) := by decide +kernel
theorem dM_net_100 : decode prog_6_method_32_code 100 = .ok (.getfield 7, 3) := by decide +kernel
theorem dM_net_103 : decode prog_6_method_32_code 103 = .ok (.if_icmp .ne 7, 3) := by decide +kernel
theorem dM_net_106 : decode prog_6_method_32_code 106 = .ok (.iconst 1, 1) := by decide +kernel
theorem dM_net_107 : decode prog_6_method_32_code 107 = .ok (.goto 28, 3) := by decide +kernel
theorem dM_net_110 : decode prog_6_method_32_code 110 = .ok (.iconst 0, 1) := by decide +kernel
theorem dM_net_111 : decode prog_6_method_32_code 111 = .ok (.goto 24, 3) := by decide +kernel
theorem dM_net_114 : decode prog_6_method_32_code 114 = .ok (.aload_n 0, 1) := by decide +kernel
theorem dM_net_115 : decode prog_6_method_32_code 115 = .ok (.getfield 60, 3) := by decide +kernel
theorem dM_net_118 : decode prog_6_method_32_code 118 = .ok (.iload 7, 2) := by decide +kernel
theorem dM_net_120 : decode prog_6_method_32_code 120 = .ok (.iaload, 1) := by decide +kernel
theorem dM_net_121 : decode prog_6_method_32_code 121 = .ok (.iload_n 1, 1) := by decide +kernel
theorem dM_net_122 : decode prog_6_method_32_code 122 = .ok (.aload_n 0, 1) := by decide +kernel
theorem dM_net_123 : decode prog_6_method_32_code 123 = .ok (.getfield 69, 3) := by decide +kernel
theorem dM_net_126 : decode prog_6_method_32_code 126 = .ok (.irem, 1) := by decide +kernel
theorem dM_net_127 : decode prog_6_method_32_code 127 = .ok (.if_icmp .ne 7, 3) := by decide +kernel
theorem dM_net_130 : decode prog_6_method_32_code 130 = .ok (.iconst 1, 1) := by decide +kernel
theorem dM_net_131 : decode prog_6_method_32_code 131 = .ok (.goto 4, 3) := by decide +kernel
theorem dM_net_134 : decode prog_6_method_32_code 134 = .ok (.iconst 0, 1) := by decide +kernel
theorem dM_net_135 : decode prog_6_method_32_code 135 = .ok (.istore 8, 2) := by decide +kernel
theorem dM_net_137 : decode prog_6_method_32_code 137 = .ok (.iload 8, 2) := by decide +kernel
theorem dM_net_139 : decode prog_6_method_32_code 139 = .ok (.ifCond .eq 43, 3) := by decide +kernel
theorem dM_net_142 : decode prog_6_method_32_code 142 = .ok (.aload_n 0, 1) := by decide +kernel
theorem dM_net_143 : decode prog_6_method_32_code 143 = .ok (.getfield 54, 3) := by decide +kernel
theorem dM_net_146 : decode prog_6_method_32_code 146 = .ok (.iload 7, 2) := by decide +kernel
theorem dM_net_148 : decode prog_6_method_32_code 148 = .ok (.iaload, 1) := by decide +kernel
theorem dM_net_149 : decode prog_6_method_32_code 149 = .ok (.iload_n 3, 1) := by decide +kernel
theorem dM_net_150 : decode prog_6_method_32_code 150 = .ok (.if_icmp .ne 32, 3) := by decide +kernel
theorem dM_net_153 : decode prog_6_method_32_code 153 = .ok (.iload_n 2, 1) := by decide +kernel
theorem dM_net_154 : decode prog_6_method_32_code 154 = .ok (.ifCond .eq 15, 3) := by decide +kernel
theorem dM_net_157 : decode prog_6_method_32_code 157 = .ok (.aload_n 0, 1) := by decide +kernel
theorem dM_net_158 : decode prog_6_method_32_code 158 = .ok (.getfield 57, 3) := by decide +kernel
theorem dM_net_161 : decode prog_6_method_32_code 161 = .ok (.iload 7, 2) := by decide +kernel
theorem dM_net_163 : decode prog_6_method_32_code 163 = .ok (.iaload, 1) := by decide +kernel
theorem dM_net_164 : decode prog_6_method_32_code 164 = .ok (.iload 4, 2) := by decide +kernel
theorem dM_net_166 : decode prog_6_method_32_code 166 = .ok (.if_icmp .ne 16, 3) := by decide +kernel
theorem dM_net_169 : decode prog_6_method_32_code 169 = .ok (.lload 5, 2) := by decide +kernel
theorem dM_net_171 : decode prog_6_method_32_code 171 = .ok (.aload_n 0, 1) := by decide +kernel
theorem dM_net_172 : decode prog_6_method_32_code 172 = .ok (.getfield 63, 3) := by decide +kernel
theorem dM_net_175 : decode prog_6_method_32_code 175 = .ok (.iload 7, 2) := by decide +kernel
theorem dM_net_177 : decode prog_6_method_32_code 177 = .ok (.laload, 1) := by decide +kernel
theorem dM_net_178 : decode prog_6_method_32_code 178 = .ok (.lsub, 1) := by decide +kernel
theorem dM_net_179 : decode prog_6_method_32_code 179 = .ok (.goto 5, 3) := by decide +kernel
theorem dM_net_182 : decode prog_6_method_32_code 182 = .ok (.lload 5, 2) := by decide +kernel
theorem dM_net_184 : decode prog_6_method_32_code 184 = .ok (.lstore 5, 2) := by decide +kernel
theorem dM_net_186 : decode prog_6_method_32_code 186 = .ok (.iload 8, 2) := by decide +kernel
theorem dM_net_188 : decode prog_6_method_32_code 188 = .ok (.ifCond .eq 43, 3) := by decide +kernel
theorem dM_net_191 : decode prog_6_method_32_code 191 = .ok (.aload_n 0, 1) := by decide +kernel
theorem dM_net_192 : decode prog_6_method_32_code 192 = .ok (.getfield 57, 3) := by decide +kernel
theorem dM_net_195 : decode prog_6_method_32_code 195 = .ok (.iload 7, 2) := by decide +kernel
theorem dM_net_197 : decode prog_6_method_32_code 197 = .ok (.iaload, 1) := by decide +kernel
theorem dM_net_198 : decode prog_6_method_32_code 198 = .ok (.iload_n 3, 1) := by decide +kernel
theorem dM_net_199 : decode prog_6_method_32_code 199 = .ok (.if_icmp .ne 32, 3) := by decide +kernel
theorem dM_net_202 : decode prog_6_method_32_code 202 = .ok (.iload_n 2, 1) := by decide +kernel
theorem dM_net_203 : decode prog_6_method_32_code 203 = .ok (.ifCond .eq 15, 3) := by decide +kernel
theorem dM_net_206 : decode prog_6_method_32_code 206 = .ok (.aload_n 0, 1) := by decide +kernel
theorem dM_net_207 : decode prog_6_method_32_code 207 = .ok (.getfield 54, 3) := by decide +kernel
theorem dM_net_210 : decode prog_6_method_32_code 210 = .ok (.iload 7, 2) := by decide +kernel
theorem dM_net_212 : decode prog_6_method_32_code 212 = .ok (.iaload, 1) := by decide +kernel
theorem dM_net_213 : decode prog_6_method_32_code 213 = .ok (.iload 4, 2) := by decide +kernel
theorem dM_net_215 : decode prog_6_method_32_code 215 = .ok (.if_icmp .ne 16, 3) := by decide +kernel
theorem dM_net_218 : decode prog_6_method_32_code 218 = .ok (.lload 5, 2) := by decide +kernel
theorem dM_net_220 : decode prog_6_method_32_code 220 = .ok (.aload_n 0, 1) := by decide +kernel
theorem dM_net_221 : decode prog_6_method_32_code 221 = .ok (.getfield 63, 3) := by decide +kernel
theorem dM_net_224 : decode prog_6_method_32_code 224 = .ok (.iload 7, 2) := by decide +kernel
theorem dM_net_226 : decode prog_6_method_32_code 226 = .ok (.laload, 1) := by decide +kernel
theorem dM_net_227 : decode prog_6_method_32_code 227 = .ok (.ladd, 1) := by decide +kernel
theorem dM_net_228 : decode prog_6_method_32_code 228 = .ok (.goto 5, 3) := by decide +kernel
theorem dM_net_231 : decode prog_6_method_32_code 231 = .ok (.lload 5, 2) := by decide +kernel
theorem dM_net_233 : decode prog_6_method_32_code 233 = .ok (.lstore 5, 2) := by decide +kernel
theorem dM_net_235 : decode prog_6_method_32_code 235 = .ok (.iinc 7 1, 3) := by decide +kernel
theorem dM_net_238 : decode prog_6_method_32_code 238 = .ok (.goto (-159), 3) := by decide +kernel
theorem dM_net_241 : decode prog_6_method_32_code 241 = .ok (.lload 5, 2) := by decide +kernel
theorem dM_net_243 : decode prog_6_method_32_code 243 = .ok (.lreturn, 1) := by decide +kernel
def f_M_net_l (m : MS) (id : Int32) : Nat → Nat → Int64 → Int64
  | 0, _, _ => 0
  | n + 1, k, v => if (nI (m.1 7)) ≤ (nI k) then v else (if ((m.2.2.1 10) (nI k).toNatClampNeg) = (id - id / (nI (m.1 1)) * (nI (m.1 1))) then (if ((m.2.2.1 8) (nI k).toNatClampNeg) = (id / (nI (m.1 1))) then (if ((m.2.2.1 9) (nI k).toNatClampNeg) = (id / (nI (m.1 1))) then (f_M_net_l m id n (k + 1) ((v - ((m.2.2.2 5) (nI k).toNatClampNeg)) + ((m.2.2.2 5) (nI k).toNatClampNeg))) else (f_M_net_l m id n (k + 1) (v - ((m.2.2.2 5) (nI k).toNatClampNeg)))) else (if ((m.2.2.1 9) (nI k).toNatClampNeg) = (id / (nI (m.1 1))) then (f_M_net_l m id n (k + 1) (v + ((m.2.2.2 5) (nI k).toNatClampNeg))) else (f_M_net_l m id n (k + 1) v))) else (f_M_net_l m id n (k + 1) v))
theorem f_M_net_l_s (m : MS) (id : Int32) (n : Nat) (k : Nat) (v : Int64) : f_M_net_l m id (n + 1) k v = (if (nI (m.1 7)) ≤ (nI k) then v else (if ((m.2.2.1 10) (nI k).toNatClampNeg) = (id - id / (nI (m.1 1)) * (nI (m.1 1))) then (if ((m.2.2.1 8) (nI k).toNatClampNeg) = (id / (nI (m.1 1))) then (if ((m.2.2.1 9) (nI k).toNatClampNeg) = (id / (nI (m.1 1))) then (f_M_net_l m id n (k + 1) ((v - ((m.2.2.2 5) (nI k).toNatClampNeg)) + ((m.2.2.2 5) (nI k).toNatClampNeg))) else (f_M_net_l m id n (k + 1) (v - ((m.2.2.2 5) (nI k).toNatClampNeg)))) else (if ((m.2.2.1 9) (nI k).toNatClampNeg) = (id / (nI (m.1 1))) then (f_M_net_l m id n (k + 1) (v + ((m.2.2.2 5) (nI k).toNatClampNeg))) else (f_M_net_l m id n (k + 1) v))) else (f_M_net_l m id n (k + 1) v))) := rfl
def f_M_net_l2 (m : MS) (id : Int32) : Nat → Nat → Int64 → Int64
  | 0, _, _ => 0
  | n + 1, k, v => if (nI (m.1 7)) ≤ (nI k) then v else (if ((m.2.2.1 10) (nI k).toNatClampNeg) = m.2.1 then (if ((m.2.2.1 8) (nI k).toNatClampNeg) = ((f_M_pair m id) / (nI (m.1 0))) then (if ((m.2.2.1 9) (nI k).toNatClampNeg) = ((f_M_pair m id) - (f_M_pair m id) / (nI (m.1 0)) * (nI (m.1 0))) then (if ((m.2.2.1 9) (nI k).toNatClampNeg) = ((f_M_pair m id) / (nI (m.1 0))) then (if ((m.2.2.1 8) (nI k).toNatClampNeg) = ((f_M_pair m id) - (f_M_pair m id) / (nI (m.1 0)) * (nI (m.1 0))) then (f_M_net_l2 m id n (k + 1) ((v - ((m.2.2.2 5) (nI k).toNatClampNeg)) + ((m.2.2.2 5) (nI k).toNatClampNeg))) else (f_M_net_l2 m id n (k + 1) (v - ((m.2.2.2 5) (nI k).toNatClampNeg)))) else (f_M_net_l2 m id n (k + 1) (v - ((m.2.2.2 5) (nI k).toNatClampNeg)))) else (if ((m.2.2.1 9) (nI k).toNatClampNeg) = ((f_M_pair m id) / (nI (m.1 0))) then (if ((m.2.2.1 8) (nI k).toNatClampNeg) = ((f_M_pair m id) - (f_M_pair m id) / (nI (m.1 0)) * (nI (m.1 0))) then (f_M_net_l2 m id n (k + 1) (v + ((m.2.2.2 5) (nI k).toNatClampNeg))) else (f_M_net_l2 m id n (k + 1) v)) else (f_M_net_l2 m id n (k + 1) v))) else (if ((m.2.2.1 9) (nI k).toNatClampNeg) = ((f_M_pair m id) / (nI (m.1 0))) then (if ((m.2.2.1 8) (nI k).toNatClampNeg) = ((f_M_pair m id) - (f_M_pair m id) / (nI (m.1 0)) * (nI (m.1 0))) then (f_M_net_l2 m id n (k + 1) (v + ((m.2.2.2 5) (nI k).toNatClampNeg))) else (f_M_net_l2 m id n (k + 1) v)) else (f_M_net_l2 m id n (k + 1) v))) else (f_M_net_l2 m id n (k + 1) v))
theorem f_M_net_l2_s (m : MS) (id : Int32) (n : Nat) (k : Nat) (v : Int64) : f_M_net_l2 m id (n + 1) k v = (if (nI (m.1 7)) ≤ (nI k) then v else (if ((m.2.2.1 10) (nI k).toNatClampNeg) = m.2.1 then (if ((m.2.2.1 8) (nI k).toNatClampNeg) = ((f_M_pair m id) / (nI (m.1 0))) then (if ((m.2.2.1 9) (nI k).toNatClampNeg) = ((f_M_pair m id) - (f_M_pair m id) / (nI (m.1 0)) * (nI (m.1 0))) then (if ((m.2.2.1 9) (nI k).toNatClampNeg) = ((f_M_pair m id) / (nI (m.1 0))) then (if ((m.2.2.1 8) (nI k).toNatClampNeg) = ((f_M_pair m id) - (f_M_pair m id) / (nI (m.1 0)) * (nI (m.1 0))) then (f_M_net_l2 m id n (k + 1) ((v - ((m.2.2.2 5) (nI k).toNatClampNeg)) + ((m.2.2.2 5) (nI k).toNatClampNeg))) else (f_M_net_l2 m id n (k + 1) (v - ((m.2.2.2 5) (nI k).toNatClampNeg)))) else (f_M_net_l2 m id n (k + 1) (v - ((m.2.2.2 5) (nI k).toNatClampNeg)))) else (if ((m.2.2.1 9) (nI k).toNatClampNeg) = ((f_M_pair m id) / (nI (m.1 0))) then (if ((m.2.2.1 8) (nI k).toNatClampNeg) = ((f_M_pair m id) - (f_M_pair m id) / (nI (m.1 0)) * (nI (m.1 0))) then (f_M_net_l2 m id n (k + 1) (v + ((m.2.2.2 5) (nI k).toNatClampNeg))) else (f_M_net_l2 m id n (k + 1) v)) else (f_M_net_l2 m id n (k + 1) v))) else (if ((m.2.2.1 9) (nI k).toNatClampNeg) = ((f_M_pair m id) / (nI (m.1 0))) then (if ((m.2.2.1 8) (nI k).toNatClampNeg) = ((f_M_pair m id) - (f_M_pair m id) / (nI (m.1 0)) * (nI (m.1 0))) then (f_M_net_l2 m id n (k + 1) (v + ((m.2.2.2 5) (nI k).toNatClampNeg))) else (f_M_net_l2 m id n (k + 1) v)) else (f_M_net_l2 m id n (k + 1) v))) else (f_M_net_l2 m id n (k + 1) v))) := rfl
def f_M_net (m : MS) (id : Int32) : Int64 := if (f_M_isThere m id) = 0 then 0 else (if id < ((nI (m.1 0)) * (nI (m.1 1))) then (f_M_net_l m id (m.1 7 + 1) 0 0) else (f_M_net_l2 m id (m.1 7 + 1) 0 0))
set_option maxHeartbeats 4000000 in
set_option maxRecDepth 100000 in
theorem c_M_net (l : Launch) (D : va_G) (cI cL cQ : ClassId) (d : Nat → Nat) (κ : Nat → Option va_E) (m : MS) (hm : IsM cI cL d κ m) (hB : MB m) (sz : Nat) (id : Int32)  : Met l yM_net wM_net { frames := 3, cells := 0, slots := 0, locals := 66 } (va_Pc [.ref (d 0), .int (id)] (kC D vCl (kT cI cL cQ) d κ sz)) (vp_Sl (fun r => r = f_M_net m id)) 0 0 (fun _ => False) := by
  refine kMet (by decide) (Nat.le_of_ble_eq_true rfl) ?_
  intro p0 e0 s0 m0 below0 meth0 c0 hx hb hr hml hown hlocks hin hts hsz hP hK ls hl
  have hl : lv_has ls 9 [(0, .ref (d 0)), (1, .int (id))] := hl
  have hB9 := hB
  obtain ⟨hb0, hb1, hb2, hb3, hb4, hb5, hb6, hb7, hb8, hb9, hb10⟩ := hB9
  refine lv_aload_n hx hb dM_net_0 rfl (lv_at hl 0 rfl) ?_
  refine lv_iload_n hx hb dM_net_1 rfl (lv_at hl 1 rfl) ?_
  refine vp_callSi (W.runV (C := RM) (As := [.int (id)]) (rest := []) ⟨hx, hb, hml, hown, hts⟩ (c_M_isThere l D cI cL cQ d κ m hm hB _ id) (cwV 1 hts (k_gV tw_590 tw_464 tw_465 tw_41 tw_466) rfl rfl rfl (by decide +kernel) ⟨Nat.le_of_ble_eq_true rfl, Nat.le_of_ble_eq_true rfl⟩) (kPreV hP hK (q := 0) hm.1 rfl) rfl rfl hl.1 rfl (lv_room (Nat.le_of_ble_eq_true rfl)) dM_net_2 ⟨Nat.le_of_ble_eq_true rfl, Nat.le_of_ble_eq_true rfl⟩) (fun r_2 e_2 => ?_)
  subst e_2
  refine lv_if_ne (tgt := 10) hx hb dM_net_5 (by decide) (fun c_5 => ?_) (fun c_5 => ?_)
  · refine lv_iload_n hx hb dM_net_10 rfl (lv_at hl 1 rfl) ?_
    refine lv_aload_n hx hb dM_net_11 rfl (lv_at hl 0 rfl) ?_
    refine ka_get (ci := 4) (C := RM) (T := TM) (N := 26) hx hb hts inM hown hK hP (q := 0) hm.1 rfl 0 (by decide) (hts _ tw_384) (fun _ h9 => h9) rfl dM_net_12 ?_
    refine lv_aload_n hx hb dM_net_15 rfl (lv_at hl 0 rfl) ?_
    refine ka_get (ci := 4) (C := RM) (T := TM) (N := 26) hx hb hts inM hown hK hP (q := 0) hm.1 rfl 1 (by decide) (hts _ tw_385) (fun _ h9 => h9) rfl dM_net_16 ?_
    refine lv_imul hx hb dM_net_19 ?_
    refine lv_icmp_lt (tgt := 27) hx hb dM_net_20 (by decide) (fun c_20 => ?_) (fun c_20 => ?_)
    · refine lv_iconst (v := 0) hx hb dM_net_27 (by decide) ?_
      refine lv_istore_n (lv' := [(2, .int (0)), (0, .ref (d 0)), (1, .int (id))]) hx hb dM_net_28 rfl hl (by decide) rfl (fun ls hl => ?_)
      refine lv_iload_n hx hb dM_net_29 rfl (lv_at hl 0 rfl) ?_
      refine lv_if_eq (tgt := 46) hx hb dM_net_30 (by decide) (fun _ => ?_) (fun c => absurd c (by decide))
      refine lv_iload_n hx hb dM_net_46 rfl (lv_at hl 2 rfl) ?_
      refine lv_aload_n hx hb dM_net_47 rfl (lv_at hl 1 rfl) ?_
      refine ka_get (ci := 4) (C := RM) (T := TM) (N := 26) hx hb hts inM hown hK hP (q := 0) hm.1 rfl 1 (by decide) (hts _ tw_385) (fun _ h9 => h9) rfl dM_net_48 ?_
      refine lv_idiv hx hb dM_net_51 (nI_ne0 (by omega) (by omega)) ?_
      refine lv_istore_n (lv' := [(3, .int (id / (nI (m.1 1)))), (2, .int (0)), (0, .ref (d 0)), (1, .int (id))]) hx hb dM_net_52 rfl hl (by decide) rfl (fun ls hl => ?_)
      refine lv_iload_n hx hb dM_net_53 rfl (lv_at hl 1 rfl) ?_
      refine lv_if_eq (tgt := 70) hx hb dM_net_54 (by decide) (fun _ => ?_) (fun c => absurd c (by decide))
      refine lv_iconst (v := -1) hx hb dM_net_70 (by decide) ?_
      refine lv_istore (lv' := [(4, .int (-1)), (3, .int (id / (nI (m.1 1)))), (2, .int (0)), (0, .ref (d 0)), (1, .int (id))]) hx hb dM_net_71 hl (by decide) rfl (fun ls hl => ?_)
      refine lv_lconst (v := 0) hx hb dM_net_73 (by decide) ?_
      refine lv_lstore (lv' := [(5, .long (0)), (4, .int (-1)), (3, .int (id / (nI (m.1 1)))), (2, .int (0)), (0, .ref (d 0)), (1, .int (id))]) hx hb dM_net_74 hl (by decide) rfl (fun ls hl => ?_)
      refine lv_iconst (v := 0) hx hb dM_net_76 (by decide) ?_
      refine lv_istore (lv' := [(7, .int (0)), (5, .long (0)), (4, .int (-1)), (3, .int (id / (nI (m.1 1)))), (2, .int (0)), (0, .ref (d 0)), (1, .int (id))]) hx hb dM_net_77 hl (by decide) rfl (fun ls hl => ?_)
      refine k_rec (σ := Nat × Int64) (fun n z9 ls => z9.1 ≤ m.1 7 ∧ m.1 7 < z9.1 + n ∧ f_M_net_l m id n z9.1 z9.2 = f_M_net m id ∧ lv_has ls 9 [(7, .int (nI z9.1)), (5, .long z9.2), (4, .int (-1)), (3, .int (id / (nI (m.1 1)))), (2, .int (0)), (0, .ref (d 0)), (1, .int (id))]) (m.1 7 + 1) (0, 0) ⟨by omega, by omega, by rw [f_M_net, if_neg c_5, if_pos c_20], lv_sub hl [0, 1, 2, 3, 4, 5, 6] rfl⟩ ?_
      intro n z9 ls hI ih
      obtain ⟨k, v⟩ := z9
      obtain ⟨hk, hn, hE, hl⟩ := hI
      dsimp only at hk hn hE hl
      obtain ⟨n, rfl⟩ : ∃ q, n = q + 1 := ⟨n - 1, by omega⟩
      refine lv_iload hx hb dM_net_79 (lv_at hl 0 rfl) ?_
      refine lv_aload_n hx hb dM_net_81 rfl (lv_at hl 5 rfl) ?_
      refine ka_get (ci := 4) (C := RM) (T := TM) (N := 26) hx hb hts inM hown hK hP (q := 0) hm.1 rfl 21 (by decide) (hts _ tw_405) (fun _ h9 => h9) rfl dM_net_82 ?_
      refine lv_icmp_ge (tgt := 241) hx hb dM_net_85 (by decide) (fun c_85 => ?_) (fun c_85 => ?_)
      · refine lv_lload hx hb dM_net_241 (lv_at hl 1 rfl) ?_
        exact W.lret (v := v) hx hb hr (fun t ht hW => ⟨_, rfl, by rw [← hE, f_M_net_l_s, if_pos c_85], ht⟩) (fun q h => by cases h) dM_net_243
      · have hlt : k < m.1 7 := Nat.lt_of_not_le (fun q => c_85 (nI_le q (by omega)))
        refine lv_iload_n hx hb dM_net_88 rfl (lv_at hl 4 rfl) ?_
        refine lv_if_eq (tgt := 114) hx hb dM_net_89 (by decide) (fun _ => ?_) (fun c => absurd c (by decide))
        refine lv_aload_n hx hb dM_net_114 rfl (lv_at hl 5 rfl) ?_
        refine ka_get (ci := 4) (C := RM) (T := TM) (N := 26) hx hb hts inM hown hK hP (q := 0) hm.1 rfl 24 (by decide) (hts _ tw_408) (fun _ h9 => h9) rfl dM_net_115 ?_
        refine lv_iload hx hb dM_net_118 (lv_at hl 0 rfl) ?_
        refine ka_iald hx hb hK hP 0 (q := 16) hm.2.2.2.2.2.2.2.2.2.2.2.2.2.2.2.2.1 rfl (by first | assumption | exact vp_in_nI (by omega) (by omega)) dM_net_120 ?_
        refine lv_iload_n hx hb dM_net_121 rfl (lv_at hl 6 rfl) ?_
        refine lv_aload_n hx hb dM_net_122 rfl (lv_at hl 5 rfl) ?_
        refine ka_get (ci := 4) (C := RM) (T := TM) (N := 26) hx hb hts inM hown hK hP (q := 0) hm.1 rfl 1 (by decide) (hts _ tw_385) (fun _ h9 => h9) rfl dM_net_123 ?_
        refine lv_irem hx hb dM_net_126 (nI_ne0 (by omega) (by omega)) ?_
        refine lv_icmp_ne (tgt := 134) hx hb dM_net_127 (by decide) (fun c_127 => ?_) (fun c_127 => ?_)
        · refine lv_iconst (v := 0) hx hb dM_net_134 (by decide) ?_
          refine lv_istore (lv' := [(8, .int (0)), (7, .int (nI k)), (5, .long (v)), (4, .int (-1)), (3, .int (id / (nI (m.1 1)))), (2, .int (0)), (0, .ref (d 0)), (1, .int (id))]) hx hb dM_net_135 hl (by decide) rfl (fun ls hl => ?_)
          refine lv_iload hx hb dM_net_137 (lv_at hl 0 rfl) ?_
          refine lv_if_eq (tgt := 182) hx hb dM_net_139 (by decide) (fun _ => ?_) (fun c => absurd c (by decide))
          refine lv_lload hx hb dM_net_182 (lv_at hl 2 rfl) ?_
          refine lv_lstore (lv' := [(5, .long (v)), (8, .int (0)), (7, .int (nI k)), (4, .int (-1)), (3, .int (id / (nI (m.1 1)))), (2, .int (0)), (0, .ref (d 0)), (1, .int (id))]) hx hb dM_net_184 hl (by decide) rfl (fun ls hl => ?_)
          refine lv_iload hx hb dM_net_186 (lv_at hl 1 rfl) ?_
          refine lv_if_eq (tgt := 231) hx hb dM_net_188 (by decide) (fun _ => ?_) (fun c => absurd c (by decide))
          refine lv_lload hx hb dM_net_231 (lv_at hl 0 rfl) ?_
          refine lv_lstore (lv' := [(5, .long (v)), (8, .int (0)), (7, .int (nI k)), (4, .int (-1)), (3, .int (id / (nI (m.1 1)))), (2, .int (0)), (0, .ref (d 0)), (1, .int (id))]) hx hb dM_net_233 hl (by decide) rfl (fun ls hl => ?_)
          refine lv_iinc (v := nI (k + 1)) (lv' := [(7, .int (nI (k + 1))), (5, .long (v)), (8, .int (0)), (4, .int (-1)), (3, .int (id / (nI (m.1 1)))), (2, .int (0)), (0, .ref (d 0)), (1, .int (id))]) hx hb dM_net_235 hl (k := 2) rfl (nI_add k 1) (by decide) rfl (fun ls hl => ?_)
          refine lv_goto (tgt := 79) hx hb dM_net_238 (by decide) ?_
          exact ih n (k + 1, v) ls (by omega) ⟨by omega, by omega, by rw [← hE, f_M_net_l_s, if_neg c_85, if_neg c_127], lv_sub hl [0, 1, 3, 4, 5, 6, 7] rfl⟩
        · refine lv_iconst (v := 1) hx hb dM_net_130 (by decide) ?_
          refine lv_goto (tgt := 135) hx hb dM_net_131 (by decide) ?_
          refine lv_istore (lv' := [(8, .int (1)), (7, .int (nI k)), (5, .long (v)), (4, .int (-1)), (3, .int (id / (nI (m.1 1)))), (2, .int (0)), (0, .ref (d 0)), (1, .int (id))]) hx hb dM_net_135 hl (by decide) rfl (fun ls hl => ?_)
          refine lv_iload hx hb dM_net_137 (lv_at hl 0 rfl) ?_
          refine lv_if_eq (tgt := 182) hx hb dM_net_139 (by decide) (fun c => absurd c (by decide)) (fun _ => ?_)
          refine lv_aload_n hx hb dM_net_142 rfl (lv_at hl 6 rfl) ?_
          refine ka_get (ci := 4) (C := RM) (T := TM) (N := 26) hx hb hts inM hown hK hP (q := 0) hm.1 rfl 22 (by decide) (hts _ tw_406) (fun _ h9 => h9) rfl dM_net_143 ?_
          refine lv_iload hx hb dM_net_146 (lv_at hl 1 rfl) ?_
          refine ka_iald hx hb hK hP 0 (q := 14) hm.2.2.2.2.2.2.2.2.2.2.2.2.2.2.1 rfl (by first | assumption | exact vp_in_nI (by omega) (by omega)) dM_net_148 ?_
          refine lv_iload_n hx hb dM_net_149 rfl (lv_at hl 4 rfl) ?_
          refine lv_icmp_ne (tgt := 182) hx hb dM_net_150 (by decide) (fun c_150 => ?_) (fun c_150 => ?_)
          · refine lv_lload hx hb dM_net_182 (lv_at hl 2 rfl) ?_
            refine lv_lstore (lv' := [(5, .long (v)), (8, .int (1)), (7, .int (nI k)), (4, .int (-1)), (3, .int (id / (nI (m.1 1)))), (2, .int (0)), (0, .ref (d 0)), (1, .int (id))]) hx hb dM_net_184 hl (by decide) rfl (fun ls hl => ?_)
            refine lv_iload hx hb dM_net_186 (lv_at hl 1 rfl) ?_
            refine lv_if_eq (tgt := 231) hx hb dM_net_188 (by decide) (fun c => absurd c (by decide)) (fun _ => ?_)
            refine lv_aload_n hx hb dM_net_191 rfl (lv_at hl 6 rfl) ?_
            refine ka_get (ci := 4) (C := RM) (T := TM) (N := 26) hx hb hts inM hown hK hP (q := 0) hm.1 rfl 23 (by decide) (hts _ tw_407) (fun _ h9 => h9) rfl dM_net_192 ?_
            refine lv_iload hx hb dM_net_195 (lv_at hl 2 rfl) ?_
            refine ka_iald hx hb hK hP 0 (q := 15) hm.2.2.2.2.2.2.2.2.2.2.2.2.2.2.2.1 rfl (by first | assumption | exact vp_in_nI (by omega) (by omega)) dM_net_197 ?_
            refine lv_iload_n hx hb dM_net_198 rfl (lv_at hl 4 rfl) ?_
            refine lv_icmp_ne (tgt := 231) hx hb dM_net_199 (by decide) (fun c_199 => ?_) (fun c_199 => ?_)
            · refine lv_lload hx hb dM_net_231 (lv_at hl 0 rfl) ?_
              refine lv_lstore (lv' := [(5, .long (v)), (8, .int (1)), (7, .int (nI k)), (4, .int (-1)), (3, .int (id / (nI (m.1 1)))), (2, .int (0)), (0, .ref (d 0)), (1, .int (id))]) hx hb dM_net_233 hl (by decide) rfl (fun ls hl => ?_)
              refine lv_iinc (v := nI (k + 1)) (lv' := [(7, .int (nI (k + 1))), (5, .long (v)), (8, .int (1)), (4, .int (-1)), (3, .int (id / (nI (m.1 1)))), (2, .int (0)), (0, .ref (d 0)), (1, .int (id))]) hx hb dM_net_235 hl (k := 2) rfl (nI_add k 1) (by decide) rfl (fun ls hl => ?_)
              refine lv_goto (tgt := 79) hx hb dM_net_238 (by decide) ?_
              exact ih n (k + 1, v) ls (by omega) ⟨by omega, by omega, by rw [← hE, f_M_net_l_s, if_neg c_85, if_pos c_127, if_neg c_150, if_neg c_199], lv_sub hl [0, 1, 3, 4, 5, 6, 7] rfl⟩
            · refine lv_iload_n hx hb dM_net_202 rfl (lv_at hl 5 rfl) ?_
              refine lv_if_eq (tgt := 218) hx hb dM_net_203 (by decide) (fun _ => ?_) (fun c => absurd c (by decide))
              refine lv_lload hx hb dM_net_218 (lv_at hl 0 rfl) ?_
              refine lv_aload_n hx hb dM_net_220 rfl (lv_at hl 6 rfl) ?_
              refine ka_get (ci := 4) (C := RM) (T := TM) (N := 26) hx hb hts inM hown hK hP (q := 0) hm.1 rfl 25 (by decide) (hts _ tw_409) (fun _ h9 => h9) rfl dM_net_221 ?_
              refine lv_iload hx hb dM_net_224 (lv_at hl 2 rfl) ?_
              refine ka_lald hx hb hK hP 1 (q := 17) hm.2.2.2.2.2.2.2.2.2.2.2.2.2.2.2.2.2 rfl (by first | assumption | exact vp_in_nI (by omega) (by omega)) dM_net_226 ?_
              refine lv_ladd hx hb dM_net_227 ?_
              refine lv_goto (tgt := 233) hx hb dM_net_228 (by decide) ?_
              refine lv_lstore (lv' := [(5, .long (v + ((m.2.2.2 5) (nI k).toNatClampNeg))), (8, .int (1)), (7, .int (nI k)), (4, .int (-1)), (3, .int (id / (nI (m.1 1)))), (2, .int (0)), (0, .ref (d 0)), (1, .int (id))]) hx hb dM_net_233 hl (by decide) rfl (fun ls hl => ?_)
              refine lv_iinc (v := nI (k + 1)) (lv' := [(7, .int (nI (k + 1))), (5, .long (v + ((m.2.2.2 5) (nI k).toNatClampNeg))), (8, .int (1)), (4, .int (-1)), (3, .int (id / (nI (m.1 1)))), (2, .int (0)), (0, .ref (d 0)), (1, .int (id))]) hx hb dM_net_235 hl (k := 2) rfl (nI_add k 1) (by decide) rfl (fun ls hl => ?_)
              refine lv_goto (tgt := 79) hx hb dM_net_238 (by decide) ?_
              exact ih n (k + 1, v + ((m.2.2.2 5) (nI k).toNatClampNeg)) ls (by omega) ⟨by omega, by omega, by rw [← hE, f_M_net_l_s, if_neg c_85, if_pos c_127, if_neg c_150, if_pos c_199], lv_sub hl [0, 1, 3, 4, 5, 6, 7] rfl⟩
          · refine lv_iload_n hx hb dM_net_153 rfl (lv_at hl 5 rfl) ?_
            refine lv_if_eq (tgt := 169) hx hb dM_net_154 (by decide) (fun _ => ?_) (fun c => absurd c (by decide))
            refine lv_lload hx hb dM_net_169 (lv_at hl 2 rfl) ?_
            refine lv_aload_n hx hb dM_net_171 rfl (lv_at hl 6 rfl) ?_
            refine ka_get (ci := 4) (C := RM) (T := TM) (N := 26) hx hb hts inM hown hK hP (q := 0) hm.1 rfl 25 (by decide) (hts _ tw_409) (fun _ h9 => h9) rfl dM_net_172 ?_
            refine lv_iload hx hb dM_net_175 (lv_at hl 1 rfl) ?_
            refine ka_lald hx hb hK hP 1 (q := 17) hm.2.2.2.2.2.2.2.2.2.2.2.2.2.2.2.2.2 rfl (by first | assumption | exact vp_in_nI (by omega) (by omega)) dM_net_177 ?_
            refine lv_lsub hx hb dM_net_178 ?_
            refine lv_goto (tgt := 184) hx hb dM_net_179 (by decide) ?_
            refine lv_lstore (lv' := [(5, .long (v - ((m.2.2.2 5) (nI k).toNatClampNeg))), (8, .int (1)), (7, .int (nI k)), (4, .int (-1)), (3, .int (id / (nI (m.1 1)))), (2, .int (0)), (0, .ref (d 0)), (1, .int (id))]) hx hb dM_net_184 hl (by decide) rfl (fun ls hl => ?_)
            refine lv_iload hx hb dM_net_186 (lv_at hl 1 rfl) ?_
            refine lv_if_eq (tgt := 231) hx hb dM_net_188 (by decide) (fun c => absurd c (by decide)) (fun _ => ?_)
            refine lv_aload_n hx hb dM_net_191 rfl (lv_at hl 6 rfl) ?_
            refine ka_get (ci := 4) (C := RM) (T := TM) (N := 26) hx hb hts inM hown hK hP (q := 0) hm.1 rfl 23 (by decide) (hts _ tw_407) (fun _ h9 => h9) rfl dM_net_192 ?_
            refine lv_iload hx hb dM_net_195 (lv_at hl 2 rfl) ?_
            refine ka_iald hx hb hK hP 0 (q := 15) hm.2.2.2.2.2.2.2.2.2.2.2.2.2.2.2.1 rfl (by first | assumption | exact vp_in_nI (by omega) (by omega)) dM_net_197 ?_
            refine lv_iload_n hx hb dM_net_198 rfl (lv_at hl 4 rfl) ?_
            refine lv_icmp_ne (tgt := 231) hx hb dM_net_199 (by decide) (fun c_199 => ?_) (fun c_199 => ?_)
            · refine lv_lload hx hb dM_net_231 (lv_at hl 0 rfl) ?_
              refine lv_lstore (lv' := [(5, .long (v - ((m.2.2.2 5) (nI k).toNatClampNeg))), (8, .int (1)), (7, .int (nI k)), (4, .int (-1)), (3, .int (id / (nI (m.1 1)))), (2, .int (0)), (0, .ref (d 0)), (1, .int (id))]) hx hb dM_net_233 hl (by decide) rfl (fun ls hl => ?_)
              refine lv_iinc (v := nI (k + 1)) (lv' := [(7, .int (nI (k + 1))), (5, .long (v - ((m.2.2.2 5) (nI k).toNatClampNeg))), (8, .int (1)), (4, .int (-1)), (3, .int (id / (nI (m.1 1)))), (2, .int (0)), (0, .ref (d 0)), (1, .int (id))]) hx hb dM_net_235 hl (k := 2) rfl (nI_add k 1) (by decide) rfl (fun ls hl => ?_)
              refine lv_goto (tgt := 79) hx hb dM_net_238 (by decide) ?_
              exact ih n (k + 1, v - ((m.2.2.2 5) (nI k).toNatClampNeg)) ls (by omega) ⟨by omega, by omega, by rw [← hE, f_M_net_l_s, if_neg c_85, if_pos c_127, if_pos c_150, if_neg c_199], lv_sub hl [0, 1, 3, 4, 5, 6, 7] rfl⟩
            · refine lv_iload_n hx hb dM_net_202 rfl (lv_at hl 5 rfl) ?_
              refine lv_if_eq (tgt := 218) hx hb dM_net_203 (by decide) (fun _ => ?_) (fun c => absurd c (by decide))
              refine lv_lload hx hb dM_net_218 (lv_at hl 0 rfl) ?_
              refine lv_aload_n hx hb dM_net_220 rfl (lv_at hl 6 rfl) ?_
              refine ka_get (ci := 4) (C := RM) (T := TM) (N := 26) hx hb hts inM hown hK hP (q := 0) hm.1 rfl 25 (by decide) (hts _ tw_409) (fun _ h9 => h9) rfl dM_net_221 ?_
              refine lv_iload hx hb dM_net_224 (lv_at hl 2 rfl) ?_
              refine ka_lald hx hb hK hP 1 (q := 17) hm.2.2.2.2.2.2.2.2.2.2.2.2.2.2.2.2.2 rfl (by first | assumption | exact vp_in_nI (by omega) (by omega)) dM_net_226 ?_
              refine lv_ladd hx hb dM_net_227 ?_
              refine lv_goto (tgt := 233) hx hb dM_net_228 (by decide) ?_
              refine lv_lstore (lv' := [(5, .long ((v - ((m.2.2.2 5) (nI k).toNatClampNeg)) + ((m.2.2.2 5) (nI k).toNatClampNeg))), (8, .int (1)), (7, .int (nI k)), (4, .int (-1)), (3, .int (id / (nI (m.1 1)))), (2, .int (0)), (0, .ref (d 0)), (1, .int (id))]) hx hb dM_net_233 hl (by decide) rfl (fun ls hl => ?_)
              refine lv_iinc (v := nI (k + 1)) (lv' := [(7, .int (nI (k + 1))), (5, .long ((v - ((m.2.2.2 5) (nI k).toNatClampNeg)) + ((m.2.2.2 5) (nI k).toNatClampNeg))), (8, .int (1)), (4, .int (-1)), (3, .int (id / (nI (m.1 1)))), (2, .int (0)), (0, .ref (d 0)), (1, .int (id))]) hx hb dM_net_235 hl (k := 2) rfl (nI_add k 1) (by decide) rfl (fun ls hl => ?_)
              refine lv_goto (tgt := 79) hx hb dM_net_238 (by decide) ?_
              exact ih n (k + 1, (v - ((m.2.2.2 5) (nI k).toNatClampNeg)) + ((m.2.2.2 5) (nI k).toNatClampNeg)) ls (by omega) ⟨by omega, by omega, by rw [← hE, f_M_net_l_s, if_neg c_85, if_pos c_127, if_pos c_150, if_pos c_199], lv_sub hl [0, 1, 3, 4, 5, 6, 7] rfl⟩
    · refine lv_iconst (v := 1) hx hb dM_net_23 (by decide) ?_
      refine lv_goto (tgt := 28) hx hb dM_net_24 (by decide) ?_
      refine lv_istore_n (lv' := [(2, .int (1)), (0, .ref (d 0)), (1, .int (id))]) hx hb dM_net_28 rfl hl (by decide) rfl (fun ls hl => ?_)
      refine lv_iload_n hx hb dM_net_29 rfl (lv_at hl 0 rfl) ?_
      refine lv_if_eq (tgt := 46) hx hb dM_net_30 (by decide) (fun c => absurd c (by decide)) (fun _ => ?_)
      refine lv_aload_n hx hb dM_net_33 rfl (lv_at hl 1 rfl) ?_
      refine lv_iload_n hx hb dM_net_34 rfl (lv_at hl 2 rfl) ?_
      refine vp_callSi (W.runV (C := RM) (As := [.int (id)]) (rest := []) ⟨hx, hb, hml, hown, hts⟩ (c_M_pair l D cI cL cQ d κ m hm hB _ id) (cwV 1 hts (k_gV tw_471 tw_473 tw_23 tw_41 tw_474) rfl rfl rfl (by decide +kernel) ⟨Nat.le_of_ble_eq_true rfl, Nat.le_of_ble_eq_true rfl⟩) (kPreV hP hK (q := 0) hm.1 rfl) rfl rfl hl.1 rfl (lv_room (Nat.le_of_ble_eq_true rfl)) dM_net_35 ⟨Nat.le_of_ble_eq_true rfl, Nat.le_of_ble_eq_true rfl⟩) (fun r_35 e_35 => ?_)
      subst e_35
      refine lv_aload_n hx hb dM_net_38 rfl (lv_at hl 1 rfl) ?_
      refine ka_get (ci := 4) (C := RM) (T := TM) (N := 26) hx hb hts inM hown hK hP (q := 0) hm.1 rfl 0 (by decide) (hts _ tw_384) (fun _ h9 => h9) rfl dM_net_39 ?_
      refine lv_idiv hx hb dM_net_42 (nI_ne0 (by omega) (by omega)) ?_
      refine lv_goto (tgt := 52) hx hb dM_net_43 (by decide) ?_
      refine lv_istore_n (lv' := [(3, .int ((f_M_pair m id) / (nI (m.1 0)))), (2, .int (1)), (0, .ref (d 0)), (1, .int (id))]) hx hb dM_net_52 rfl hl (by decide) rfl (fun ls hl => ?_)
      refine lv_iload_n hx hb dM_net_53 rfl (lv_at hl 1 rfl) ?_
      refine lv_if_eq (tgt := 70) hx hb dM_net_54 (by decide) (fun c => absurd c (by decide)) (fun _ => ?_)
      refine lv_aload_n hx hb dM_net_57 rfl (lv_at hl 2 rfl) ?_
      refine lv_iload_n hx hb dM_net_58 rfl (lv_at hl 3 rfl) ?_
      refine vp_callSi (W.runV (C := RM) (As := [.int (id)]) (rest := []) ⟨hx, hb, hml, hown, hts⟩ (c_M_pair l D cI cL cQ d κ m hm hB _ id) (cwV 1 hts (k_gV tw_471 tw_473 tw_23 tw_41 tw_474) rfl rfl rfl (by decide +kernel) ⟨Nat.le_of_ble_eq_true rfl, Nat.le_of_ble_eq_true rfl⟩) (kPreV hP hK (q := 0) hm.1 rfl) rfl rfl hl.1 rfl (lv_room (Nat.le_of_ble_eq_true rfl)) dM_net_59 ⟨Nat.le_of_ble_eq_true rfl, Nat.le_of_ble_eq_true rfl⟩) (fun r_59 e_59 => ?_)
      subst e_59
      refine lv_aload_n hx hb dM_net_62 rfl (lv_at hl 2 rfl) ?_
      refine ka_get (ci := 4) (C := RM) (T := TM) (N := 26) hx hb hts inM hown hK hP (q := 0) hm.1 rfl 0 (by decide) (hts _ tw_384) (fun _ h9 => h9) rfl dM_net_63 ?_
      refine lv_irem hx hb dM_net_66 (nI_ne0 (by omega) (by omega)) ?_
      refine lv_goto (tgt := 71) hx hb dM_net_67 (by decide) ?_
      refine lv_istore (lv' := [(4, .int ((f_M_pair m id) - (f_M_pair m id) / (nI (m.1 0)) * (nI (m.1 0)))), (3, .int ((f_M_pair m id) / (nI (m.1 0)))), (2, .int (1)), (0, .ref (d 0)), (1, .int (id))]) hx hb dM_net_71 hl (by decide) rfl (fun ls hl => ?_)
      refine lv_lconst (v := 0) hx hb dM_net_73 (by decide) ?_
      refine lv_lstore (lv' := [(5, .long (0)), (4, .int ((f_M_pair m id) - (f_M_pair m id) / (nI (m.1 0)) * (nI (m.1 0)))), (3, .int ((f_M_pair m id) / (nI (m.1 0)))), (2, .int (1)), (0, .ref (d 0)), (1, .int (id))]) hx hb dM_net_74 hl (by decide) rfl (fun ls hl => ?_)
      refine lv_iconst (v := 0) hx hb dM_net_76 (by decide) ?_
      refine lv_istore (lv' := [(7, .int (0)), (5, .long (0)), (4, .int ((f_M_pair m id) - (f_M_pair m id) / (nI (m.1 0)) * (nI (m.1 0)))), (3, .int ((f_M_pair m id) / (nI (m.1 0)))), (2, .int (1)), (0, .ref (d 0)), (1, .int (id))]) hx hb dM_net_77 hl (by decide) rfl (fun ls hl => ?_)
      refine k_rec (σ := Nat × Int64) (fun n z9 ls => z9.1 ≤ m.1 7 ∧ m.1 7 < z9.1 + n ∧ f_M_net_l2 m id n z9.1 z9.2 = f_M_net m id ∧ lv_has ls 9 [(7, .int (nI z9.1)), (5, .long z9.2), (4, .int ((f_M_pair m id) - (f_M_pair m id) / (nI (m.1 0)) * (nI (m.1 0)))), (3, .int ((f_M_pair m id) / (nI (m.1 0)))), (2, .int (1)), (0, .ref (d 0)), (1, .int (id))]) (m.1 7 + 1) (0, 0) ⟨by omega, by omega, by rw [f_M_net, if_neg c_5, if_neg c_20], lv_sub hl [0, 1, 2, 3, 4, 5, 6] rfl⟩ ?_
      intro n z9 ls hI ih
      obtain ⟨k, v⟩ := z9
      obtain ⟨hk, hn, hE, hl⟩ := hI
      dsimp only at hk hn hE hl
      obtain ⟨n, rfl⟩ : ∃ q, n = q + 1 := ⟨n - 1, by omega⟩
      refine lv_iload hx hb dM_net_79 (lv_at hl 0 rfl) ?_
      refine lv_aload_n hx hb dM_net_81 rfl (lv_at hl 5 rfl) ?_
      refine ka_get (ci := 4) (C := RM) (T := TM) (N := 26) hx hb hts inM hown hK hP (q := 0) hm.1 rfl 21 (by decide) (hts _ tw_405) (fun _ h9 => h9) rfl dM_net_82 ?_
      refine lv_icmp_ge (tgt := 241) hx hb dM_net_85 (by decide) (fun c_85 => ?_) (fun c_85 => ?_)
      · refine lv_lload hx hb dM_net_241 (lv_at hl 1 rfl) ?_
        exact W.lret (v := v) hx hb hr (fun t ht hW => ⟨_, rfl, by rw [← hE, f_M_net_l2_s, if_pos c_85], ht⟩) (fun q h => by cases h) dM_net_243
      · have hlt : k < m.1 7 := Nat.lt_of_not_le (fun q => c_85 (nI_le q (by omega)))
        refine lv_iload_n hx hb dM_net_88 rfl (lv_at hl 4 rfl) ?_
        refine lv_if_eq (tgt := 114) hx hb dM_net_89 (by decide) (fun c => absurd c (by decide)) (fun _ => ?_)
        refine lv_aload_n hx hb dM_net_92 rfl (lv_at hl 5 rfl) ?_
        refine ka_get (ci := 4) (C := RM) (T := TM) (N := 26) hx hb hts inM hown hK hP (q := 0) hm.1 rfl 24 (by decide) (hts _ tw_408) (fun _ h9 => h9) rfl dM_net_93 ?_
        refine lv_iload hx hb dM_net_96 (lv_at hl 0 rfl) ?_
        refine ka_iald hx hb hK hP 0 (q := 16) hm.2.2.2.2.2.2.2.2.2.2.2.2.2.2.2.2.1 rfl (by first | assumption | exact vp_in_nI (by omega) (by omega)) dM_net_98 ?_
        refine lv_aload_n hx hb dM_net_99 rfl (lv_at hl 5 rfl) ?_
        refine ka_get (ci := 4) (C := RM) (T := TM) (N := 26) hx hb hts inM hown hK hP (q := 0) hm.1 rfl 3 (by decide) (hts _ tw_387) (fun _ h9 => h9) rfl dM_net_100 ?_
        refine lv_icmp_ne (tgt := 110) hx hb dM_net_103 (by decide) (fun c_103 => ?_) (fun c_103 => ?_)
        · refine lv_iconst (v := 0) hx hb dM_net_110 (by decide) ?_
          refine lv_goto (tgt := 135) hx hb dM_net_111 (by decide) ?_
          refine lv_istore (lv' := [(8, .int (0)), (7, .int (nI k)), (5, .long (v)), (4, .int ((f_M_pair m id) - (f_M_pair m id) / (nI (m.1 0)) * (nI (m.1 0)))), (3, .int ((f_M_pair m id) / (nI (m.1 0)))), (2, .int (1)), (0, .ref (d 0)), (1, .int (id))]) hx hb dM_net_135 hl (by decide) rfl (fun ls hl => ?_)
          refine lv_iload hx hb dM_net_137 (lv_at hl 0 rfl) ?_
          refine lv_if_eq (tgt := 182) hx hb dM_net_139 (by decide) (fun _ => ?_) (fun c => absurd c (by decide))
          refine lv_lload hx hb dM_net_182 (lv_at hl 2 rfl) ?_
          refine lv_lstore (lv' := [(5, .long (v)), (8, .int (0)), (7, .int (nI k)), (4, .int ((f_M_pair m id) - (f_M_pair m id) / (nI (m.1 0)) * (nI (m.1 0)))), (3, .int ((f_M_pair m id) / (nI (m.1 0)))), (2, .int (1)), (0, .ref (d 0)), (1, .int (id))]) hx hb dM_net_184 hl (by decide) rfl (fun ls hl => ?_)
          refine lv_iload hx hb dM_net_186 (lv_at hl 1 rfl) ?_
          refine lv_if_eq (tgt := 231) hx hb dM_net_188 (by decide) (fun _ => ?_) (fun c => absurd c (by decide))
          refine lv_lload hx hb dM_net_231 (lv_at hl 0 rfl) ?_
          refine lv_lstore (lv' := [(5, .long (v)), (8, .int (0)), (7, .int (nI k)), (4, .int ((f_M_pair m id) - (f_M_pair m id) / (nI (m.1 0)) * (nI (m.1 0)))), (3, .int ((f_M_pair m id) / (nI (m.1 0)))), (2, .int (1)), (0, .ref (d 0)), (1, .int (id))]) hx hb dM_net_233 hl (by decide) rfl (fun ls hl => ?_)
          refine lv_iinc (v := nI (k + 1)) (lv' := [(7, .int (nI (k + 1))), (5, .long (v)), (8, .int (0)), (4, .int ((f_M_pair m id) - (f_M_pair m id) / (nI (m.1 0)) * (nI (m.1 0)))), (3, .int ((f_M_pair m id) / (nI (m.1 0)))), (2, .int (1)), (0, .ref (d 0)), (1, .int (id))]) hx hb dM_net_235 hl (k := 2) rfl (nI_add k 1) (by decide) rfl (fun ls hl => ?_)
          refine lv_goto (tgt := 79) hx hb dM_net_238 (by decide) ?_
          exact ih n (k + 1, v) ls (by omega) ⟨by omega, by omega, by rw [← hE, f_M_net_l2_s, if_neg c_85, if_neg c_103], lv_sub hl [0, 1, 3, 4, 5, 6, 7] rfl⟩
        · refine lv_iconst (v := 1) hx hb dM_net_106 (by decide) ?_
          refine lv_goto (tgt := 135) hx hb dM_net_107 (by decide) ?_
          refine lv_istore (lv' := [(8, .int (1)), (7, .int (nI k)), (5, .long (v)), (4, .int ((f_M_pair m id) - (f_M_pair m id) / (nI (m.1 0)) * (nI (m.1 0)))), (3, .int ((f_M_pair m id) / (nI (m.1 0)))), (2, .int (1)), (0, .ref (d 0)), (1, .int (id))]) hx hb dM_net_135 hl (by decide) rfl (fun ls hl => ?_)
          refine lv_iload hx hb dM_net_137 (lv_at hl 0 rfl) ?_
          refine lv_if_eq (tgt := 182) hx hb dM_net_139 (by decide) (fun c => absurd c (by decide)) (fun _ => ?_)
          refine lv_aload_n hx hb dM_net_142 rfl (lv_at hl 6 rfl) ?_
          refine ka_get (ci := 4) (C := RM) (T := TM) (N := 26) hx hb hts inM hown hK hP (q := 0) hm.1 rfl 22 (by decide) (hts _ tw_406) (fun _ h9 => h9) rfl dM_net_143 ?_
          refine lv_iload hx hb dM_net_146 (lv_at hl 1 rfl) ?_
          refine ka_iald hx hb hK hP 0 (q := 14) hm.2.2.2.2.2.2.2.2.2.2.2.2.2.2.1 rfl (by first | assumption | exact vp_in_nI (by omega) (by omega)) dM_net_148 ?_
          refine lv_iload_n hx hb dM_net_149 rfl (lv_at hl 4 rfl) ?_
          refine lv_icmp_ne (tgt := 182) hx hb dM_net_150 (by decide) (fun c_150 => ?_) (fun c_150 => ?_)
          · refine lv_lload hx hb dM_net_182 (lv_at hl 2 rfl) ?_
            refine lv_lstore (lv' := [(5, .long (v)), (8, .int (1)), (7, .int (nI k)), (4, .int ((f_M_pair m id) - (f_M_pair m id) / (nI (m.1 0)) * (nI (m.1 0)))), (3, .int ((f_M_pair m id) / (nI (m.1 0)))), (2, .int (1)), (0, .ref (d 0)), (1, .int (id))]) hx hb dM_net_184 hl (by decide) rfl (fun ls hl => ?_)
            refine lv_iload hx hb dM_net_186 (lv_at hl 1 rfl) ?_
            refine lv_if_eq (tgt := 231) hx hb dM_net_188 (by decide) (fun c => absurd c (by decide)) (fun _ => ?_)
            refine lv_aload_n hx hb dM_net_191 rfl (lv_at hl 6 rfl) ?_
            refine ka_get (ci := 4) (C := RM) (T := TM) (N := 26) hx hb hts inM hown hK hP (q := 0) hm.1 rfl 23 (by decide) (hts _ tw_407) (fun _ h9 => h9) rfl dM_net_192 ?_
            refine lv_iload hx hb dM_net_195 (lv_at hl 2 rfl) ?_
            refine ka_iald hx hb hK hP 0 (q := 15) hm.2.2.2.2.2.2.2.2.2.2.2.2.2.2.2.1 rfl (by first | assumption | exact vp_in_nI (by omega) (by omega)) dM_net_197 ?_
            refine lv_iload_n hx hb dM_net_198 rfl (lv_at hl 4 rfl) ?_
            refine lv_icmp_ne (tgt := 231) hx hb dM_net_199 (by decide) (fun c_199 => ?_) (fun c_199 => ?_)
            · refine lv_lload hx hb dM_net_231 (lv_at hl 0 rfl) ?_
              refine lv_lstore (lv' := [(5, .long (v)), (8, .int (1)), (7, .int (nI k)), (4, .int ((f_M_pair m id) - (f_M_pair m id) / (nI (m.1 0)) * (nI (m.1 0)))), (3, .int ((f_M_pair m id) / (nI (m.1 0)))), (2, .int (1)), (0, .ref (d 0)), (1, .int (id))]) hx hb dM_net_233 hl (by decide) rfl (fun ls hl => ?_)
              refine lv_iinc (v := nI (k + 1)) (lv' := [(7, .int (nI (k + 1))), (5, .long (v)), (8, .int (1)), (4, .int ((f_M_pair m id) - (f_M_pair m id) / (nI (m.1 0)) * (nI (m.1 0)))), (3, .int ((f_M_pair m id) / (nI (m.1 0)))), (2, .int (1)), (0, .ref (d 0)), (1, .int (id))]) hx hb dM_net_235 hl (k := 2) rfl (nI_add k 1) (by decide) rfl (fun ls hl => ?_)
              refine lv_goto (tgt := 79) hx hb dM_net_238 (by decide) ?_
              exact ih n (k + 1, v) ls (by omega) ⟨by omega, by omega, by rw [← hE, f_M_net_l2_s, if_neg c_85, if_pos c_103, if_neg c_150, if_neg c_199], lv_sub hl [0, 1, 3, 4, 5, 6, 7] rfl⟩
            · refine lv_iload_n hx hb dM_net_202 rfl (lv_at hl 5 rfl) ?_
              refine lv_if_eq (tgt := 218) hx hb dM_net_203 (by decide) (fun c => absurd c (by decide)) (fun _ => ?_)
              refine lv_aload_n hx hb dM_net_206 rfl (lv_at hl 6 rfl) ?_
              refine ka_get (ci := 4) (C := RM) (T := TM) (N := 26) hx hb hts inM hown hK hP (q := 0) hm.1 rfl 22 (by decide) (hts _ tw_406) (fun _ h9 => h9) rfl dM_net_207 ?_
              refine lv_iload hx hb dM_net_210 (lv_at hl 2 rfl) ?_
              refine ka_iald hx hb hK hP 0 (q := 14) hm.2.2.2.2.2.2.2.2.2.2.2.2.2.2.1 rfl (by first | assumption | exact vp_in_nI (by omega) (by omega)) dM_net_212 ?_
              refine lv_iload hx hb dM_net_213 (lv_at hl 3 rfl) ?_
              refine lv_icmp_ne (tgt := 231) hx hb dM_net_215 (by decide) (fun c_215 => ?_) (fun c_215 => ?_)
              · refine lv_lload hx hb dM_net_231 (lv_at hl 0 rfl) ?_
                refine lv_lstore (lv' := [(5, .long (v)), (8, .int (1)), (7, .int (nI k)), (4, .int ((f_M_pair m id) - (f_M_pair m id) / (nI (m.1 0)) * (nI (m.1 0)))), (3, .int ((f_M_pair m id) / (nI (m.1 0)))), (2, .int (1)), (0, .ref (d 0)), (1, .int (id))]) hx hb dM_net_233 hl (by decide) rfl (fun ls hl => ?_)
                refine lv_iinc (v := nI (k + 1)) (lv' := [(7, .int (nI (k + 1))), (5, .long (v)), (8, .int (1)), (4, .int ((f_M_pair m id) - (f_M_pair m id) / (nI (m.1 0)) * (nI (m.1 0)))), (3, .int ((f_M_pair m id) / (nI (m.1 0)))), (2, .int (1)), (0, .ref (d 0)), (1, .int (id))]) hx hb dM_net_235 hl (k := 2) rfl (nI_add k 1) (by decide) rfl (fun ls hl => ?_)
                refine lv_goto (tgt := 79) hx hb dM_net_238 (by decide) ?_
                exact ih n (k + 1, v) ls (by omega) ⟨by omega, by omega, by rw [← hE, f_M_net_l2_s, if_neg c_85, if_pos c_103, if_neg c_150, if_pos c_199, if_neg c_215], lv_sub hl [0, 1, 3, 4, 5, 6, 7] rfl⟩
              · refine lv_lload hx hb dM_net_218 (lv_at hl 0 rfl) ?_
                refine lv_aload_n hx hb dM_net_220 rfl (lv_at hl 6 rfl) ?_
                refine ka_get (ci := 4) (C := RM) (T := TM) (N := 26) hx hb hts inM hown hK hP (q := 0) hm.1 rfl 25 (by decide) (hts _ tw_409) (fun _ h9 => h9) rfl dM_net_221 ?_
                refine lv_iload hx hb dM_net_224 (lv_at hl 2 rfl) ?_
                refine ka_lald hx hb hK hP 1 (q := 17) hm.2.2.2.2.2.2.2.2.2.2.2.2.2.2.2.2.2 rfl (by first | assumption | exact vp_in_nI (by omega) (by omega)) dM_net_226 ?_
                refine lv_ladd hx hb dM_net_227 ?_
                refine lv_goto (tgt := 233) hx hb dM_net_228 (by decide) ?_
                refine lv_lstore (lv' := [(5, .long (v + ((m.2.2.2 5) (nI k).toNatClampNeg))), (8, .int (1)), (7, .int (nI k)), (4, .int ((f_M_pair m id) - (f_M_pair m id) / (nI (m.1 0)) * (nI (m.1 0)))), (3, .int ((f_M_pair m id) / (nI (m.1 0)))), (2, .int (1)), (0, .ref (d 0)), (1, .int (id))]) hx hb dM_net_233 hl (by decide) rfl (fun ls hl => ?_)
                refine lv_iinc (v := nI (k + 1)) (lv' := [(7, .int (nI (k + 1))), (5, .long (v + ((m.2.2.2 5) (nI k).toNatClampNeg))), (8, .int (1)), (4, .int ((f_M_pair m id) - (f_M_pair m id) / (nI (m.1 0)) * (nI (m.1 0)))), (3, .int ((f_M_pair m id) / (nI (m.1 0)))), (2, .int (1)), (0, .ref (d 0)), (1, .int (id))]) hx hb dM_net_235 hl (k := 2) rfl (nI_add k 1) (by decide) rfl (fun ls hl => ?_)
                refine lv_goto (tgt := 79) hx hb dM_net_238 (by decide) ?_
                exact ih n (k + 1, v + ((m.2.2.2 5) (nI k).toNatClampNeg)) ls (by omega) ⟨by omega, by omega, by rw [← hE, f_M_net_l2_s, if_neg c_85, if_pos c_103, if_neg c_150, if_pos c_199, if_pos c_215], lv_sub hl [0, 1, 3, 4, 5, 6, 7] rfl⟩
          · refine lv_iload_n hx hb dM_net_153 rfl (lv_at hl 5 rfl) ?_
            refine lv_if_eq (tgt := 169) hx hb dM_net_154 (by decide) (fun c => absurd c (by decide)) (fun _ => ?_)
            refine lv_aload_n hx hb dM_net_157 rfl (lv_at hl 6 rfl) ?_
            refine ka_get (ci := 4) (C := RM) (T := TM) (N := 26) hx hb hts inM hown hK hP (q := 0) hm.1 rfl 23 (by decide) (hts _ tw_407) (fun _ h9 => h9) rfl dM_net_158 ?_
            refine lv_iload hx hb dM_net_161 (lv_at hl 1 rfl) ?_
            refine ka_iald hx hb hK hP 0 (q := 15) hm.2.2.2.2.2.2.2.2.2.2.2.2.2.2.2.1 rfl (by first | assumption | exact vp_in_nI (by omega) (by omega)) dM_net_163 ?_
            refine lv_iload hx hb dM_net_164 (lv_at hl 3 rfl) ?_
            refine lv_icmp_ne (tgt := 182) hx hb dM_net_166 (by decide) (fun c_166 => ?_) (fun c_166 => ?_)
            · refine lv_lload hx hb dM_net_182 (lv_at hl 2 rfl) ?_
              refine lv_lstore (lv' := [(5, .long (v)), (8, .int (1)), (7, .int (nI k)), (4, .int ((f_M_pair m id) - (f_M_pair m id) / (nI (m.1 0)) * (nI (m.1 0)))), (3, .int ((f_M_pair m id) / (nI (m.1 0)))), (2, .int (1)), (0, .ref (d 0)), (1, .int (id))]) hx hb dM_net_184 hl (by decide) rfl (fun ls hl => ?_)
              refine lv_iload hx hb dM_net_186 (lv_at hl 1 rfl) ?_
              refine lv_if_eq (tgt := 231) hx hb dM_net_188 (by decide) (fun c => absurd c (by decide)) (fun _ => ?_)
              refine lv_aload_n hx hb dM_net_191 rfl (lv_at hl 6 rfl) ?_
              refine ka_get (ci := 4) (C := RM) (T := TM) (N := 26) hx hb hts inM hown hK hP (q := 0) hm.1 rfl 23 (by decide) (hts _ tw_407) (fun _ h9 => h9) rfl dM_net_192 ?_
              refine lv_iload hx hb dM_net_195 (lv_at hl 2 rfl) ?_
              refine ka_iald hx hb hK hP 0 (q := 15) hm.2.2.2.2.2.2.2.2.2.2.2.2.2.2.2.1 rfl (by first | assumption | exact vp_in_nI (by omega) (by omega)) dM_net_197 ?_
              refine lv_iload_n hx hb dM_net_198 rfl (lv_at hl 4 rfl) ?_
              refine lv_icmp_ne (tgt := 231) hx hb dM_net_199 (by decide) (fun c_199 => ?_) (fun c_199 => ?_)
              · refine lv_lload hx hb dM_net_231 (lv_at hl 0 rfl) ?_
                refine lv_lstore (lv' := [(5, .long (v)), (8, .int (1)), (7, .int (nI k)), (4, .int ((f_M_pair m id) - (f_M_pair m id) / (nI (m.1 0)) * (nI (m.1 0)))), (3, .int ((f_M_pair m id) / (nI (m.1 0)))), (2, .int (1)), (0, .ref (d 0)), (1, .int (id))]) hx hb dM_net_233 hl (by decide) rfl (fun ls hl => ?_)
                refine lv_iinc (v := nI (k + 1)) (lv' := [(7, .int (nI (k + 1))), (5, .long (v)), (8, .int (1)), (4, .int ((f_M_pair m id) - (f_M_pair m id) / (nI (m.1 0)) * (nI (m.1 0)))), (3, .int ((f_M_pair m id) / (nI (m.1 0)))), (2, .int (1)), (0, .ref (d 0)), (1, .int (id))]) hx hb dM_net_235 hl (k := 2) rfl (nI_add k 1) (by decide) rfl (fun ls hl => ?_)
                refine lv_goto (tgt := 79) hx hb dM_net_238 (by decide) ?_
                exact ih n (k + 1, v) ls (by omega) ⟨by omega, by omega, by rw [← hE, f_M_net_l2_s, if_neg c_85, if_pos c_103, if_pos c_150, if_neg c_166, if_neg c_199], lv_sub hl [0, 1, 3, 4, 5, 6, 7] rfl⟩
              · refine lv_iload_n hx hb dM_net_202 rfl (lv_at hl 5 rfl) ?_
                refine lv_if_eq (tgt := 218) hx hb dM_net_203 (by decide) (fun c => absurd c (by decide)) (fun _ => ?_)
                refine lv_aload_n hx hb dM_net_206 rfl (lv_at hl 6 rfl) ?_
                refine ka_get (ci := 4) (C := RM) (T := TM) (N := 26) hx hb hts inM hown hK hP (q := 0) hm.1 rfl 22 (by decide) (hts _ tw_406) (fun _ h9 => h9) rfl dM_net_207 ?_
                refine lv_iload hx hb dM_net_210 (lv_at hl 2 rfl) ?_
                refine ka_iald hx hb hK hP 0 (q := 14) hm.2.2.2.2.2.2.2.2.2.2.2.2.2.2.1 rfl (by first | assumption | exact vp_in_nI (by omega) (by omega)) dM_net_212 ?_
                refine lv_iload hx hb dM_net_213 (lv_at hl 3 rfl) ?_
                refine lv_icmp_ne (tgt := 231) hx hb dM_net_215 (by decide) (fun c_215 => ?_) (fun c_215 => ?_)
                · refine lv_lload hx hb dM_net_231 (lv_at hl 0 rfl) ?_
                  refine lv_lstore (lv' := [(5, .long (v)), (8, .int (1)), (7, .int (nI k)), (4, .int ((f_M_pair m id) - (f_M_pair m id) / (nI (m.1 0)) * (nI (m.1 0)))), (3, .int ((f_M_pair m id) / (nI (m.1 0)))), (2, .int (1)), (0, .ref (d 0)), (1, .int (id))]) hx hb dM_net_233 hl (by decide) rfl (fun ls hl => ?_)
                  refine lv_iinc (v := nI (k + 1)) (lv' := [(7, .int (nI (k + 1))), (5, .long (v)), (8, .int (1)), (4, .int ((f_M_pair m id) - (f_M_pair m id) / (nI (m.1 0)) * (nI (m.1 0)))), (3, .int ((f_M_pair m id) / (nI (m.1 0)))), (2, .int (1)), (0, .ref (d 0)), (1, .int (id))]) hx hb dM_net_235 hl (k := 2) rfl (nI_add k 1) (by decide) rfl (fun ls hl => ?_)
                  refine lv_goto (tgt := 79) hx hb dM_net_238 (by decide) ?_
                  exact ih n (k + 1, v) ls (by omega) ⟨by omega, by omega, by rw [← hE, f_M_net_l2_s, if_neg c_85, if_pos c_103, if_pos c_150, if_neg c_166, if_pos c_199, if_neg c_215], lv_sub hl [0, 1, 3, 4, 5, 6, 7] rfl⟩
                · refine lv_lload hx hb dM_net_218 (lv_at hl 0 rfl) ?_
                  refine lv_aload_n hx hb dM_net_220 rfl (lv_at hl 6 rfl) ?_
                  refine ka_get (ci := 4) (C := RM) (T := TM) (N := 26) hx hb hts inM hown hK hP (q := 0) hm.1 rfl 25 (by decide) (hts _ tw_409) (fun _ h9 => h9) rfl dM_net_221 ?_
                  refine lv_iload hx hb dM_net_224 (lv_at hl 2 rfl) ?_
                  refine ka_lald hx hb hK hP 1 (q := 17) hm.2.2.2.2.2.2.2.2.2.2.2.2.2.2.2.2.2 rfl (by first | assumption | exact vp_in_nI (by omega) (by omega)) dM_net_226 ?_
                  refine lv_ladd hx hb dM_net_227 ?_
                  refine lv_goto (tgt := 233) hx hb dM_net_228 (by decide) ?_
                  refine lv_lstore (lv' := [(5, .long (v + ((m.2.2.2 5) (nI k).toNatClampNeg))), (8, .int (1)), (7, .int (nI k)), (4, .int ((f_M_pair m id) - (f_M_pair m id) / (nI (m.1 0)) * (nI (m.1 0)))), (3, .int ((f_M_pair m id) / (nI (m.1 0)))), (2, .int (1)), (0, .ref (d 0)), (1, .int (id))]) hx hb dM_net_233 hl (by decide) rfl (fun ls hl => ?_)
                  refine lv_iinc (v := nI (k + 1)) (lv' := [(7, .int (nI (k + 1))), (5, .long (v + ((m.2.2.2 5) (nI k).toNatClampNeg))), (8, .int (1)), (4, .int ((f_M_pair m id) - (f_M_pair m id) / (nI (m.1 0)) * (nI (m.1 0)))), (3, .int ((f_M_pair m id) / (nI (m.1 0)))), (2, .int (1)), (0, .ref (d 0)), (1, .int (id))]) hx hb dM_net_235 hl (k := 2) rfl (nI_add k 1) (by decide) rfl (fun ls hl => ?_)
                  refine lv_goto (tgt := 79) hx hb dM_net_238 (by decide) ?_
                  exact ih n (k + 1, v + ((m.2.2.2 5) (nI k).toNatClampNeg)) ls (by omega) ⟨by omega, by omega, by rw [← hE, f_M_net_l2_s, if_neg c_85, if_pos c_103, if_pos c_150, if_neg c_166, if_pos c_199, if_pos c_215], lv_sub hl [0, 1, 3, 4, 5, 6, 7] rfl⟩
            · refine lv_lload hx hb dM_net_169 (lv_at hl 2 rfl) ?_
              refine lv_aload_n hx hb dM_net_171 rfl (lv_at hl 6 rfl) ?_
              refine ka_get (ci := 4) (C := RM) (T := TM) (N := 26) hx hb hts inM hown hK hP (q := 0) hm.1 rfl 25 (by decide) (hts _ tw_409) (fun _ h9 => h9) rfl dM_net_172 ?_
              refine lv_iload hx hb dM_net_175 (lv_at hl 1 rfl) ?_
              refine ka_lald hx hb hK hP 1 (q := 17) hm.2.2.2.2.2.2.2.2.2.2.2.2.2.2.2.2.2 rfl (by first | assumption | exact vp_in_nI (by omega) (by omega)) dM_net_177 ?_
              refine lv_lsub hx hb dM_net_178 ?_
              refine lv_goto (tgt := 184) hx hb dM_net_179 (by decide) ?_
              refine lv_lstore (lv' := [(5, .long (v - ((m.2.2.2 5) (nI k).toNatClampNeg))), (8, .int (1)), (7, .int (nI k)), (4, .int ((f_M_pair m id) - (f_M_pair m id) / (nI (m.1 0)) * (nI (m.1 0)))), (3, .int ((f_M_pair m id) / (nI (m.1 0)))), (2, .int (1)), (0, .ref (d 0)), (1, .int (id))]) hx hb dM_net_184 hl (by decide) rfl (fun ls hl => ?_)
              refine lv_iload hx hb dM_net_186 (lv_at hl 1 rfl) ?_
              refine lv_if_eq (tgt := 231) hx hb dM_net_188 (by decide) (fun c => absurd c (by decide)) (fun _ => ?_)
              refine lv_aload_n hx hb dM_net_191 rfl (lv_at hl 6 rfl) ?_
              refine ka_get (ci := 4) (C := RM) (T := TM) (N := 26) hx hb hts inM hown hK hP (q := 0) hm.1 rfl 23 (by decide) (hts _ tw_407) (fun _ h9 => h9) rfl dM_net_192 ?_
              refine lv_iload hx hb dM_net_195 (lv_at hl 2 rfl) ?_
              refine ka_iald hx hb hK hP 0 (q := 15) hm.2.2.2.2.2.2.2.2.2.2.2.2.2.2.2.1 rfl (by first | assumption | exact vp_in_nI (by omega) (by omega)) dM_net_197 ?_
              refine lv_iload_n hx hb dM_net_198 rfl (lv_at hl 4 rfl) ?_
              refine lv_icmp_ne (tgt := 231) hx hb dM_net_199 (by decide) (fun c_199 => ?_) (fun c_199 => ?_)
              · refine lv_lload hx hb dM_net_231 (lv_at hl 0 rfl) ?_
                refine lv_lstore (lv' := [(5, .long (v - ((m.2.2.2 5) (nI k).toNatClampNeg))), (8, .int (1)), (7, .int (nI k)), (4, .int ((f_M_pair m id) - (f_M_pair m id) / (nI (m.1 0)) * (nI (m.1 0)))), (3, .int ((f_M_pair m id) / (nI (m.1 0)))), (2, .int (1)), (0, .ref (d 0)), (1, .int (id))]) hx hb dM_net_233 hl (by decide) rfl (fun ls hl => ?_)
                refine lv_iinc (v := nI (k + 1)) (lv' := [(7, .int (nI (k + 1))), (5, .long (v - ((m.2.2.2 5) (nI k).toNatClampNeg))), (8, .int (1)), (4, .int ((f_M_pair m id) - (f_M_pair m id) / (nI (m.1 0)) * (nI (m.1 0)))), (3, .int ((f_M_pair m id) / (nI (m.1 0)))), (2, .int (1)), (0, .ref (d 0)), (1, .int (id))]) hx hb dM_net_235 hl (k := 2) rfl (nI_add k 1) (by decide) rfl (fun ls hl => ?_)
                refine lv_goto (tgt := 79) hx hb dM_net_238 (by decide) ?_
                exact ih n (k + 1, v - ((m.2.2.2 5) (nI k).toNatClampNeg)) ls (by omega) ⟨by omega, by omega, by rw [← hE, f_M_net_l2_s, if_neg c_85, if_pos c_103, if_pos c_150, if_pos c_166, if_neg c_199], lv_sub hl [0, 1, 3, 4, 5, 6, 7] rfl⟩
              · refine lv_iload_n hx hb dM_net_202 rfl (lv_at hl 5 rfl) ?_
                refine lv_if_eq (tgt := 218) hx hb dM_net_203 (by decide) (fun c => absurd c (by decide)) (fun _ => ?_)
                refine lv_aload_n hx hb dM_net_206 rfl (lv_at hl 6 rfl) ?_
                refine ka_get (ci := 4) (C := RM) (T := TM) (N := 26) hx hb hts inM hown hK hP (q := 0) hm.1 rfl 22 (by decide) (hts _ tw_406) (fun _ h9 => h9) rfl dM_net_207 ?_
                refine lv_iload hx hb dM_net_210 (lv_at hl 2 rfl) ?_
                refine ka_iald hx hb hK hP 0 (q := 14) hm.2.2.2.2.2.2.2.2.2.2.2.2.2.2.1 rfl (by first | assumption | exact vp_in_nI (by omega) (by omega)) dM_net_212 ?_
                refine lv_iload hx hb dM_net_213 (lv_at hl 3 rfl) ?_
                refine lv_icmp_ne (tgt := 231) hx hb dM_net_215 (by decide) (fun c_215 => ?_) (fun c_215 => ?_)
                · refine lv_lload hx hb dM_net_231 (lv_at hl 0 rfl) ?_
                  refine lv_lstore (lv' := [(5, .long (v - ((m.2.2.2 5) (nI k).toNatClampNeg))), (8, .int (1)), (7, .int (nI k)), (4, .int ((f_M_pair m id) - (f_M_pair m id) / (nI (m.1 0)) * (nI (m.1 0)))), (3, .int ((f_M_pair m id) / (nI (m.1 0)))), (2, .int (1)), (0, .ref (d 0)), (1, .int (id))]) hx hb dM_net_233 hl (by decide) rfl (fun ls hl => ?_)
                  refine lv_iinc (v := nI (k + 1)) (lv' := [(7, .int (nI (k + 1))), (5, .long (v - ((m.2.2.2 5) (nI k).toNatClampNeg))), (8, .int (1)), (4, .int ((f_M_pair m id) - (f_M_pair m id) / (nI (m.1 0)) * (nI (m.1 0)))), (3, .int ((f_M_pair m id) / (nI (m.1 0)))), (2, .int (1)), (0, .ref (d 0)), (1, .int (id))]) hx hb dM_net_235 hl (k := 2) rfl (nI_add k 1) (by decide) rfl (fun ls hl => ?_)
                  refine lv_goto (tgt := 79) hx hb dM_net_238 (by decide) ?_
                  exact ih n (k + 1, v - ((m.2.2.2 5) (nI k).toNatClampNeg)) ls (by omega) ⟨by omega, by omega, by rw [← hE, f_M_net_l2_s, if_neg c_85, if_pos c_103, if_pos c_150, if_pos c_166, if_pos c_199, if_neg c_215], lv_sub hl [0, 1, 3, 4, 5, 6, 7] rfl⟩
                · refine lv_lload hx hb dM_net_218 (lv_at hl 0 rfl) ?_
                  refine lv_aload_n hx hb dM_net_220 rfl (lv_at hl 6 rfl) ?_
                  refine ka_get (ci := 4) (C := RM) (T := TM) (N := 26) hx hb hts inM hown hK hP (q := 0) hm.1 rfl 25 (by decide) (hts _ tw_409) (fun _ h9 => h9) rfl dM_net_221 ?_
                  refine lv_iload hx hb dM_net_224 (lv_at hl 2 rfl) ?_
                  refine ka_lald hx hb hK hP 1 (q := 17) hm.2.2.2.2.2.2.2.2.2.2.2.2.2.2.2.2.2 rfl (by first | assumption | exact vp_in_nI (by omega) (by omega)) dM_net_226 ?_
                  refine lv_ladd hx hb dM_net_227 ?_
                  refine lv_goto (tgt := 233) hx hb dM_net_228 (by decide) ?_
                  refine lv_lstore (lv' := [(5, .long ((v - ((m.2.2.2 5) (nI k).toNatClampNeg)) + ((m.2.2.2 5) (nI k).toNatClampNeg))), (8, .int (1)), (7, .int (nI k)), (4, .int ((f_M_pair m id) - (f_M_pair m id) / (nI (m.1 0)) * (nI (m.1 0)))), (3, .int ((f_M_pair m id) / (nI (m.1 0)))), (2, .int (1)), (0, .ref (d 0)), (1, .int (id))]) hx hb dM_net_233 hl (by decide) rfl (fun ls hl => ?_)
                  refine lv_iinc (v := nI (k + 1)) (lv' := [(7, .int (nI (k + 1))), (5, .long ((v - ((m.2.2.2 5) (nI k).toNatClampNeg)) + ((m.2.2.2 5) (nI k).toNatClampNeg))), (8, .int (1)), (4, .int ((f_M_pair m id) - (f_M_pair m id) / (nI (m.1 0)) * (nI (m.1 0)))), (3, .int ((f_M_pair m id) / (nI (m.1 0)))), (2, .int (1)), (0, .ref (d 0)), (1, .int (id))]) hx hb dM_net_235 hl (k := 2) rfl (nI_add k 1) (by decide) rfl (fun ls hl => ?_)
                  refine lv_goto (tgt := 79) hx hb dM_net_238 (by decide) ?_
                  exact ih n (k + 1, (v - ((m.2.2.2 5) (nI k).toNatClampNeg)) + ((m.2.2.2 5) (nI k).toNatClampNeg)) ls (by omega) ⟨by omega, by omega, by rw [← hE, f_M_net_l2_s, if_neg c_85, if_pos c_103, if_pos c_150, if_pos c_166, if_pos c_199, if_pos c_215], lv_sub hl [0, 1, 3, 4, 5, 6, 7] rfl⟩
  · refine lv_lconst (v := 0) hx hb dM_net_8 (by decide) ?_
    exact W.lret (v := 0) hx hb hr (fun t ht hW => ⟨_, rfl, by rw [f_M_net, if_pos c_5], ht⟩) (fun q h => by cases h) dM_net_9

theorem dM_value_0 : decode prog_6_method_36_code 0 = .ok (.aload_n 0, 1) := by decide +kernel
theorem dM_value_1 : decode prog_6_method_36_code 1 = .ok (.iload_n 1, 1) := by decide +kernel
theorem dM_value_2 : decode prog_6_method_36_code 2 = .ok (.invokevirtual 163, 3) := by decide +kernel
theorem dM_value_5 : decode prog_6_method_36_code 5 = .ok (.ifCond .ne 5, 3) := by decide +kernel
theorem dM_value_8 : decode prog_6_method_36_code 8 = .ok (.lconst 0, 1) := by decide +kernel
theorem dM_value_9 : decode prog_6_method_36_code 9 = .ok (.lreturn, 1) := by decide +kernel
theorem dM_value_10 : decode prog_6_method_36_code 10 = .ok (.iload_n 1, 1) := by decide +kernel
theorem dM_value_11 : decode prog_6_method_36_code 11 = .ok (.aload_n 0, 1) := by decide +kernel
theorem dM_value_12 : decode prog_6_method_36_code 12 = .ok (.getfield 66, 3) := by decide +kernel
theorem dM_value_15 : decode prog_6_method_36_code 15 = .ok (.aload_n 0, 1) := by decide +kernel
theorem dM_value_16 : decode prog_6_method_36_code 16 = .ok (.getfield 69, 3) := by decide +kernel
theorem dM_value_19 : decode prog_6_method_36_code 19 = .ok (.imul, 1) := by decide +kernel
theorem dM_value_20 : decode prog_6_method_36_code 20 = .ok (.if_icmp .ge 20, 3) := by decide +kernel
theorem dM_value_23 : decode prog_6_method_36_code 23 = .ok (.aload_n 0, 1) := by decide +kernel
theorem dM_value_24 : decode prog_6_method_36_code 24 = .ok (.iload_n 1, 1) := by decide +kernel
theorem dM_value_25 : decode prog_6_method_36_code 25 = .ok (.aload_n 0, 1) := by decide +kernel
theorem dM_value_26 : decode prog_6_method_36_code 26 = .ok (.getfield 69, 3) := by decide +kernel
theorem dM_value_29 : decode prog_6_method_36_code 29 = .ok (.idiv, 1) := by decide +kernel
theorem dM_value_30 : decode prog_6_method_36_code 30 = .ok (.iload_n 1, 1) := by decide +kernel
theorem dM_value_31 : decode prog_6_method_36_code 31 = .ok (.aload_n 0, 1) := by decide +kernel
theorem dM_value_32 : decode prog_6_method_36_code 32 = .ok (.getfield 69, 3) := by decide +kernel
theorem dM_value_35 : decode prog_6_method_36_code 35 = .ok (.irem, 1) := by decide +kernel
theorem dM_value_36 : decode prog_6_method_36_code 36 = .ok (.invokevirtual 102, 3) := by decide +kernel
theorem dM_value_39 : decode prog_6_method_36_code 39 = .ok (.lreturn, 1) := by decide +kernel
theorem dM_value_40 : decode prog_6_method_36_code 40 = .ok (.aload_n 0, 1) := by decide +kernel
theorem dM_value_41 : decode prog_6_method_36_code 41 = .ok (.iload_n 1, 1) := by decide +kernel
theorem dM_value_42 : decode prog_6_method_36_code 42 = .ok (.invokevirtual 112, 3) := by decide +kernel
theorem dM_value_45 : decode prog_6_method_36_code 45 = .ok (.aload_n 0, 1) := by decide +kernel
theorem dM_value_46 : decode prog_6_method_36_code 46 = .ok (.getfield 66, 3) := by decide +kernel
theorem dM_value_49 : decode prog_6_method_36_code 49 = .ok (.idiv, 1) := by decide +kernel
theorem dM_value_50 : decode prog_6_method_36_code 50 = .ok (.istore_n 2, 1) := by decide +kernel
theorem dM_value_51 : decode prog_6_method_36_code 51 = .ok (.aload_n 0, 1) := by decide +kernel
theorem dM_value_52 : decode prog_6_method_36_code 52 = .ok (.iload_n 1, 1) := by decide +kernel
theorem dM_value_53 : decode prog_6_method_36_code 53 = .ok (.invokevirtual 112, 3) := by decide +kernel
theorem dM_value_56 : decode prog_6_method_36_code 56 = .ok (.aload_n 0, 1) := by decide +kernel
theorem dM_value_57 : decode prog_6_method_36_code 57 = .ok (.getfield 66, 3) := by decide +kernel
theorem dM_value_60 : decode prog_6_method_36_code 60 = .ok (.irem, 1) := by decide +kernel
theorem dM_value_61 : decode prog_6_method_36_code 61 = .ok (.istore_n 3, 1) := by decide +kernel
theorem dM_value_62 : decode prog_6_method_36_code 62 = .ok (.aload_n 0, 1) := by decide +kernel
theorem dM_value_63 : decode prog_6_method_36_code 63 = .ok (.getfield 51, 3) := by decide +kernel
theorem dM_value_66 : decode prog_6_method_36_code 66 = .ok (.aload_n 0, 1) := by decide +kernel
theorem dM_value_67 : decode prog_6_method_36_code 67 = .ok (.iload_n 2, 1) := by decide +kernel
theorem dM_value_68 : decode prog_6_method_36_code 68 = .ok (.iload_n 3, 1) := by decide +kernel
theorem dM_value_69 : decode prog_6_method_36_code 69 = .ok (.invokevirtual 116, 3) := by decide +kernel
theorem dM_value_72 : decode prog_6_method_36_code 72 = .ok (.laload, 1) := by decide +kernel
theorem dM_value_73 : decode prog_6_method_36_code 73 = .ok (.aload_n 0, 1) := by decide +kernel
theorem dM_value_74 : decode prog_6_method_36_code 74 = .ok (.iload_n 2, 1) := by decide +kernel
theorem dM_value_75 : decode prog_6_method_36_code 75 = .ok (.iload_n 3, 1) := by decide +kernel
theorem dM_value_76 : decode prog_6_method_36_code 76 = .ok (.invokevirtual 157, 3) := by decide +kernel
theorem dM_value_79 : decode prog_6_method_36_code 79 = .ok (.lsub, 1) := by decide +kernel
theorem dM_value_80 : decode prog_6_method_36_code 80 = .ok (.lreturn, 1) := by decide +kernel
def f_M_value (m : MS) (id : Int32) : Int64 := if (f_M_isThere m id) = 0 then 0 else (if ((nI (m.1 0)) * (nI (m.1 1))) ≤ id then (((m.2.2.2 4) (f_M_limitAt m ((f_M_pair m id) / (nI (m.1 0))) ((f_M_pair m id) - (f_M_pair m id) / (nI (m.1 0)) * (nI (m.1 0)))).toNatClampNeg) - (f_M_netPaid m ((f_M_pair m id) / (nI (m.1 0))) ((f_M_pair m id) - (f_M_pair m id) / (nI (m.1 0)) * (nI (m.1 0))))) else (f_M_position m (id / (nI (m.1 1))) (id - id / (nI (m.1 1)) * (nI (m.1 1)))))
set_option maxHeartbeats 4000000 in
set_option maxRecDepth 100000 in
theorem c_M_value (l : Launch) (D : va_G) (cI cL cQ : ClassId) (d : Nat → Nat) (κ : Nat → Option va_E) (m : MS) (hm : IsM cI cL d κ m) (hB : MB m) (sz : Nat) (id : Int32)  : Met l yM_value wM_value { frames := 3, cells := 0, slots := 0, locals := 66 } (va_Pc [.ref (d 0), .int (id)] (kC D vCl (kT cI cL cQ) d κ sz)) (vp_Sl (fun r => r = f_M_value m id)) 0 0 (fun _ => False) := by
  refine kMet (by decide) (Nat.le_of_ble_eq_true rfl) ?_
  intro p0 e0 s0 m0 below0 meth0 c0 hx hb hr hml hown hlocks hin hts hsz hP hK ls hl
  have hl : lv_has ls 4 [(0, .ref (d 0)), (1, .int (id))] := hl
  have hB9 := hB
  obtain ⟨hb0, hb1, hb2, hb3, hb4, hb5, hb6, hb7, hb8, hb9, hb10⟩ := hB9
  refine lv_aload_n hx hb dM_value_0 rfl (lv_at hl 0 rfl) ?_
  refine lv_iload_n hx hb dM_value_1 rfl (lv_at hl 1 rfl) ?_
  refine vp_callSi (W.runV (C := RM) (As := [.int (id)]) (rest := []) ⟨hx, hb, hml, hown, hts⟩ (c_M_isThere l D cI cL cQ d κ m hm hB _ id) (cwV 1 hts (k_gV tw_590 tw_464 tw_465 tw_41 tw_466) rfl rfl rfl (by decide +kernel) ⟨Nat.le_of_ble_eq_true rfl, Nat.le_of_ble_eq_true rfl⟩) (kPreV hP hK (q := 0) hm.1 rfl) rfl rfl hl.1 rfl (lv_room (Nat.le_of_ble_eq_true rfl)) dM_value_2 ⟨Nat.le_of_ble_eq_true rfl, Nat.le_of_ble_eq_true rfl⟩) (fun r_2 e_2 => ?_)
  subst e_2
  refine lv_if_ne (tgt := 10) hx hb dM_value_5 (by decide) (fun c_5 => ?_) (fun c_5 => ?_)
  · refine lv_iload_n hx hb dM_value_10 rfl (lv_at hl 1 rfl) ?_
    refine lv_aload_n hx hb dM_value_11 rfl (lv_at hl 0 rfl) ?_
    refine ka_get (ci := 4) (C := RM) (T := TM) (N := 26) hx hb hts inM hown hK hP (q := 0) hm.1 rfl 0 (by decide) (hts _ tw_384) (fun _ h9 => h9) rfl dM_value_12 ?_
    refine lv_aload_n hx hb dM_value_15 rfl (lv_at hl 0 rfl) ?_
    refine ka_get (ci := 4) (C := RM) (T := TM) (N := 26) hx hb hts inM hown hK hP (q := 0) hm.1 rfl 1 (by decide) (hts _ tw_385) (fun _ h9 => h9) rfl dM_value_16 ?_
    refine lv_imul hx hb dM_value_19 ?_
    refine lv_icmp_ge (tgt := 40) hx hb dM_value_20 (by decide) (fun c_20 => ?_) (fun c_20 => ?_)
    · refine lv_aload_n hx hb dM_value_40 rfl (lv_at hl 0 rfl) ?_
      refine lv_iload_n hx hb dM_value_41 rfl (lv_at hl 1 rfl) ?_
      refine vp_callSi (W.runV (C := RM) (As := [.int (id)]) (rest := []) ⟨hx, hb, hml, hown, hts⟩ (c_M_pair l D cI cL cQ d κ m hm hB _ id) (cwV 1 hts (k_gV tw_471 tw_473 tw_23 tw_41 tw_474) rfl rfl rfl (by decide +kernel) ⟨Nat.le_of_ble_eq_true rfl, Nat.le_of_ble_eq_true rfl⟩) (kPreV hP hK (q := 0) hm.1 rfl) rfl rfl hl.1 rfl (lv_room (Nat.le_of_ble_eq_true rfl)) dM_value_42 ⟨Nat.le_of_ble_eq_true rfl, Nat.le_of_ble_eq_true rfl⟩) (fun r_42 e_42 => ?_)
      subst e_42
      refine lv_aload_n hx hb dM_value_45 rfl (lv_at hl 0 rfl) ?_
      refine ka_get (ci := 4) (C := RM) (T := TM) (N := 26) hx hb hts inM hown hK hP (q := 0) hm.1 rfl 0 (by decide) (hts _ tw_384) (fun _ h9 => h9) rfl dM_value_46 ?_
      refine lv_idiv hx hb dM_value_49 (nI_ne0 (by omega) (by omega)) ?_
      refine lv_istore_n (lv' := [(2, .int ((f_M_pair m id) / (nI (m.1 0)))), (0, .ref (d 0)), (1, .int (id))]) hx hb dM_value_50 rfl hl (by decide) rfl (fun ls hl => ?_)
      refine lv_aload_n hx hb dM_value_51 rfl (lv_at hl 1 rfl) ?_
      refine lv_iload_n hx hb dM_value_52 rfl (lv_at hl 2 rfl) ?_
      refine vp_callSi (W.runV (C := RM) (As := [.int (id)]) (rest := []) ⟨hx, hb, hml, hown, hts⟩ (c_M_pair l D cI cL cQ d κ m hm hB _ id) (cwV 1 hts (k_gV tw_471 tw_473 tw_23 tw_41 tw_474) rfl rfl rfl (by decide +kernel) ⟨Nat.le_of_ble_eq_true rfl, Nat.le_of_ble_eq_true rfl⟩) (kPreV hP hK (q := 0) hm.1 rfl) rfl rfl hl.1 rfl (lv_room (Nat.le_of_ble_eq_true rfl)) dM_value_53 ⟨Nat.le_of_ble_eq_true rfl, Nat.le_of_ble_eq_true rfl⟩) (fun r_53 e_53 => ?_)
      subst e_53
      refine lv_aload_n hx hb dM_value_56 rfl (lv_at hl 1 rfl) ?_
      refine ka_get (ci := 4) (C := RM) (T := TM) (N := 26) hx hb hts inM hown hK hP (q := 0) hm.1 rfl 0 (by decide) (hts _ tw_384) (fun _ h9 => h9) rfl dM_value_57 ?_
      refine lv_irem hx hb dM_value_60 (nI_ne0 (by omega) (by omega)) ?_
      refine lv_istore_n (lv' := [(3, .int ((f_M_pair m id) - (f_M_pair m id) / (nI (m.1 0)) * (nI (m.1 0)))), (2, .int ((f_M_pair m id) / (nI (m.1 0)))), (0, .ref (d 0)), (1, .int (id))]) hx hb dM_value_61 rfl hl (by decide) rfl (fun ls hl => ?_)
      refine lv_aload_n hx hb dM_value_62 rfl (lv_at hl 2 rfl) ?_
      refine ka_get (ci := 4) (C := RM) (T := TM) (N := 26) hx hb hts inM hown hK hP (q := 0) hm.1 rfl 20 (by decide) (hts _ tw_404) (fun _ h9 => h9) rfl dM_value_63 ?_
      refine lv_aload_n hx hb dM_value_66 rfl (lv_at hl 2 rfl) ?_
      refine lv_iload_n hx hb dM_value_67 rfl (lv_at hl 1 rfl) ?_
      refine lv_iload_n hx hb dM_value_68 rfl (lv_at hl 0 rfl) ?_
      refine vp_callSi (W.runV (C := RM) (As := [.int ((f_M_pair m id) / (nI (m.1 0))), .int ((f_M_pair m id) - (f_M_pair m id) / (nI (m.1 0)) * (nI (m.1 0)))]) (rest := [.ref (d 13)]) ⟨hx, hb, hml, hown, hts⟩ (c_M_limitAt l D cI cL cQ d κ m hm hB _ ((f_M_pair m id) / (nI (m.1 0))) ((f_M_pair m id) - (f_M_pair m id) / (nI (m.1 0)) * (nI (m.1 0)))) (cwV 2 hts (k_gV tw_475 tw_477 tw_24 tw_41 tw_478) rfl rfl rfl (by decide +kernel) ⟨Nat.le_of_ble_eq_true rfl, Nat.le_of_ble_eq_true rfl⟩) (kPreV hP hK (q := 0) hm.1 rfl) rfl rfl hl.1 rfl (lv_room (Nat.le_of_ble_eq_true rfl)) dM_value_69 ⟨Nat.le_of_ble_eq_true rfl, Nat.le_of_ble_eq_true rfl⟩) (fun r_69 e_69 => ?_)
      subst e_69
      refine ka_lald hx hb hK hP 1 (q := 13) hm.2.2.2.2.2.2.2.2.2.2.2.2.2.1 rfl (limitAt_41 hB (isThere_room (by assumption) (Int32.not_lt.mpr (by assumption)))) dM_value_72 ?_
      refine lv_aload_n hx hb dM_value_73 rfl (lv_at hl 2 rfl) ?_
      refine lv_iload_n hx hb dM_value_74 rfl (lv_at hl 1 rfl) ?_
      refine lv_iload_n hx hb dM_value_75 rfl (lv_at hl 0 rfl) ?_
      refine vp_callSl (W.runV (C := RM) (As := [.int ((f_M_pair m id) / (nI (m.1 0))), .int ((f_M_pair m id) - (f_M_pair m id) / (nI (m.1 0)) * (nI (m.1 0)))]) (rest := [.long ((m.2.2.2 4) (f_M_limitAt m ((f_M_pair m id) / (nI (m.1 0))) ((f_M_pair m id) - (f_M_pair m id) / (nI (m.1 0)) * (nI (m.1 0)))).toNatClampNeg)]) ⟨hx, hb, hml, hown, hts⟩ (c_M_netPaid l D cI cL cQ d κ m hm hB _ ((f_M_pair m id) / (nI (m.1 0))) ((f_M_pair m id) - (f_M_pair m id) / (nI (m.1 0)) * (nI (m.1 0)))) (cwV 2 hts (k_gV tw_566 tw_568 tw_35 tw_41 tw_569) rfl rfl rfl (by decide +kernel) ⟨Nat.le_of_ble_eq_true rfl, Nat.le_of_ble_eq_true rfl⟩) (kPreV hP hK (q := 0) hm.1 rfl) rfl rfl hl.1 rfl (lv_room (Nat.le_of_ble_eq_true rfl)) dM_value_76 ⟨Nat.le_of_ble_eq_true rfl, Nat.le_of_ble_eq_true rfl⟩) (fun r_76 e_76 => ?_)
      subst e_76
      refine lv_lsub hx hb dM_value_79 ?_
      exact W.lret (v := ((m.2.2.2 4) (f_M_limitAt m ((f_M_pair m id) / (nI (m.1 0))) ((f_M_pair m id) - (f_M_pair m id) / (nI (m.1 0)) * (nI (m.1 0)))).toNatClampNeg) - (f_M_netPaid m ((f_M_pair m id) / (nI (m.1 0))) ((f_M_pair m id) - (f_M_pair m id) / (nI (m.1 0)) * (nI (m.1 0))))) hx hb hr (fun t ht hW => ⟨_, rfl, by rw [f_M_value, if_neg c_5, if_pos c_20], ht⟩) (fun q h => by cases h) dM_value_80
    · refine lv_aload_n hx hb dM_value_23 rfl (lv_at hl 0 rfl) ?_
      refine lv_iload_n hx hb dM_value_24 rfl (lv_at hl 1 rfl) ?_
      refine lv_aload_n hx hb dM_value_25 rfl (lv_at hl 0 rfl) ?_
      refine ka_get (ci := 4) (C := RM) (T := TM) (N := 26) hx hb hts inM hown hK hP (q := 0) hm.1 rfl 1 (by decide) (hts _ tw_385) (fun _ h9 => h9) rfl dM_value_26 ?_
      refine lv_idiv hx hb dM_value_29 (nI_ne0 (by omega) (by omega)) ?_
      refine lv_iload_n hx hb dM_value_30 rfl (lv_at hl 1 rfl) ?_
      refine lv_aload_n hx hb dM_value_31 rfl (lv_at hl 0 rfl) ?_
      refine ka_get (ci := 4) (C := RM) (T := TM) (N := 26) hx hb hts inM hown hK hP (q := 0) hm.1 rfl 1 (by decide) (hts _ tw_385) (fun _ h9 => h9) rfl dM_value_32 ?_
      refine lv_irem hx hb dM_value_35 (nI_ne0 (by omega) (by omega)) ?_
      refine vp_callSl (W.runV (C := RM) (As := [.int (id / (nI (m.1 1))), .int (id - id / (nI (m.1 1)) * (nI (m.1 1)))]) (rest := []) ⟨hx, hb, hml, hown, hts⟩ (c_M_position l D cI cL cQ d κ m hm hB _ (id / (nI (m.1 1))) (id - id / (nI (m.1 1)) * (nI (m.1 1)))) (cwV 2 hts (k_gV tw_503 tw_505 tw_27 tw_41 tw_506) rfl rfl rfl (by decide +kernel) ⟨Nat.le_of_ble_eq_true rfl, Nat.le_of_ble_eq_true rfl⟩) (kPreV hP hK (q := 0) hm.1 rfl) rfl rfl hl.1 rfl (lv_room (Nat.le_of_ble_eq_true rfl)) dM_value_36 ⟨Nat.le_of_ble_eq_true rfl, Nat.le_of_ble_eq_true rfl⟩) (fun r_36 e_36 => ?_)
      subst e_36
      exact W.lret (v := f_M_position m (id / (nI (m.1 1))) (id - id / (nI (m.1 1)) * (nI (m.1 1)))) hx hb hr (fun t ht hW => ⟨_, rfl, by rw [f_M_value, if_neg c_5, if_neg c_20], ht⟩) (fun q h => by cases h) dM_value_39
  · refine lv_lconst (v := 0) hx hb dM_value_8 (by decide) ?_
    exact W.lret (v := 0) hx hb hr (fun t ht hW => ⟨_, rfl, by rw [f_M_value, if_pos c_5], ht⟩) (fun q h => by cases h) dM_value_9

theorem dM_floor_0 : decode prog_6_method_37_code 0 = .ok (.aload_n 0, 1) := by decide +kernel
theorem dM_floor_1 : decode prog_6_method_37_code 1 = .ok (.iload_n 1, 1) := by decide +kernel
theorem dM_floor_2 : decode prog_6_method_37_code 2 = .ok (.invokevirtual 163, 3) := by decide +kernel
theorem dM_floor_5 : decode prog_6_method_37_code 5 = .ok (.ifCond .eq 16, 3) := by decide +kernel
theorem dM_floor_8 : decode prog_6_method_37_code 8 = .ok (.iload_n 1, 1) := by decide +kernel
theorem dM_floor_9 : decode prog_6_method_37_code 9 = .ok (.aload_n 0, 1) := by decide +kernel
theorem dM_floor_10 : decode prog_6_method_37_code 10 = .ok (.getfield 66, 3) := by decide +kernel
theorem dM_floor_13 : decode prog_6_method_37_code 13 = .ok (.aload_n 0, 1) := by decide +kernel
theorem dM_floor_14 : decode prog_6_method_37_code 14 = .ok (.getfield 69, 3) := by decide +kernel
theorem dM_floor_17 : decode prog_6_method_37_code 17 = .ok (.imul, 1) := by decide +kernel
theorem dM_floor_18 : decode prog_6_method_37_code 18 = .ok (.if_icmp .lt 7, 3) := by decide +kernel
theorem dM_floor_21 : decode prog_6_method_37_code 21 = .ok (.lconst 0, 1) := by decide +kernel
theorem dM_floor_22 : decode prog_6_method_37_code 22 = .ok (.goto 19, 3) := by decide +kernel
theorem dM_floor_25 : decode prog_6_method_37_code 25 = .ok (.aload_n 0, 1) := by decide +kernel
theorem dM_floor_26 : decode prog_6_method_37_code 26 = .ok (.iload_n 1, 1) := by decide +kernel
theorem dM_floor_27 : decode prog_6_method_37_code 27 = .ok (.aload_n 0, 1) := by decide +kernel
theorem dM_floor_28 : decode prog_6_method_37_code 28 = .ok (.getfield 69, 3) := by decide +kernel
theorem dM_floor_31 : decode prog_6_method_37_code 31 = .ok (.idiv, 1) := by decide +kernel
theorem dM_floor_32 : decode prog_6_method_37_code 32 = .ok (.iload_n 1, 1) := by decide +kernel
theorem dM_floor_33 : decode prog_6_method_37_code 33 = .ok (.aload_n 0, 1) := by decide +kernel
theorem dM_floor_34 : decode prog_6_method_37_code 34 = .ok (.getfield 69, 3) := by decide +kernel
theorem dM_floor_37 : decode prog_6_method_37_code 37 = .ok (.irem, 1) := by decide +kernel
theorem dM_floor_38 : decode prog_6_method_37_code 38 = .ok (.invokevirtual 151, 3) := by decide +kernel
theorem dM_floor_41 : decode prog_6_method_37_code 41 = .ok (.lreturn, 1) := by decide +kernel
def f_M_floor (m : MS) (id : Int32) : Int64 := if (f_M_isThere m id) = 0 then 0 else (if id < ((nI (m.1 0)) * (nI (m.1 1))) then (f_M_floorOf m (id / (nI (m.1 1))) (id - id / (nI (m.1 1)) * (nI (m.1 1)))) else 0)
set_option maxHeartbeats 4000000 in
set_option maxRecDepth 100000 in
theorem c_M_floor (l : Launch) (D : va_G) (cI cL cQ : ClassId) (d : Nat → Nat) (κ : Nat → Option va_E) (m : MS) (hm : IsM cI cL d κ m) (hB : MB m) (sz : Nat) (id : Int32)  : Met l yM_floor wM_floor { frames := 3, cells := 0, slots := 0, locals := 78 } (va_Pc [.ref (d 0), .int (id)] (kC D vCl (kT cI cL cQ) d κ sz)) (vp_Sl (fun r => r = f_M_floor m id)) 0 0 (fun _ => False) := by
  refine kMet (by decide) (Nat.le_of_ble_eq_true rfl) ?_
  intro p0 e0 s0 m0 below0 meth0 c0 hx hb hr hml hown hlocks hin hts hsz hP hK ls hl
  have hl : lv_has ls 2 [(0, .ref (d 0)), (1, .int (id))] := hl
  have hB9 := hB
  obtain ⟨hb0, hb1, hb2, hb3, hb4, hb5, hb6, hb7, hb8, hb9, hb10⟩ := hB9
  refine lv_aload_n hx hb dM_floor_0 rfl (lv_at hl 0 rfl) ?_
  refine lv_iload_n hx hb dM_floor_1 rfl (lv_at hl 1 rfl) ?_
  refine vp_callSi (W.runV (C := RM) (As := [.int (id)]) (rest := []) ⟨hx, hb, hml, hown, hts⟩ (c_M_isThere l D cI cL cQ d κ m hm hB _ id) (cwV 1 hts (k_gV tw_590 tw_464 tw_465 tw_41 tw_466) rfl rfl rfl (by decide +kernel) ⟨Nat.le_of_ble_eq_true rfl, Nat.le_of_ble_eq_true rfl⟩) (kPreV hP hK (q := 0) hm.1 rfl) rfl rfl hl.1 rfl (lv_room (Nat.le_of_ble_eq_true rfl)) dM_floor_2 ⟨Nat.le_of_ble_eq_true rfl, Nat.le_of_ble_eq_true rfl⟩) (fun r_2 e_2 => ?_)
  subst e_2
  refine lv_if_eq (tgt := 21) hx hb dM_floor_5 (by decide) (fun c_5 => ?_) (fun c_5 => ?_)
  · refine lv_lconst (v := 0) hx hb dM_floor_21 (by decide) ?_
    refine lv_goto (tgt := 41) hx hb dM_floor_22 (by decide) ?_
    exact W.lret (v := 0) hx hb hr (fun t ht hW => ⟨_, rfl, by rw [f_M_floor, if_pos c_5], ht⟩) (fun q h => by cases h) dM_floor_41
  · refine lv_iload_n hx hb dM_floor_8 rfl (lv_at hl 1 rfl) ?_
    refine lv_aload_n hx hb dM_floor_9 rfl (lv_at hl 0 rfl) ?_
    refine ka_get (ci := 4) (C := RM) (T := TM) (N := 26) hx hb hts inM hown hK hP (q := 0) hm.1 rfl 0 (by decide) (hts _ tw_384) (fun _ h9 => h9) rfl dM_floor_10 ?_
    refine lv_aload_n hx hb dM_floor_13 rfl (lv_at hl 0 rfl) ?_
    refine ka_get (ci := 4) (C := RM) (T := TM) (N := 26) hx hb hts inM hown hK hP (q := 0) hm.1 rfl 1 (by decide) (hts _ tw_385) (fun _ h9 => h9) rfl dM_floor_14 ?_
    refine lv_imul hx hb dM_floor_17 ?_
    refine lv_icmp_lt (tgt := 25) hx hb dM_floor_18 (by decide) (fun c_18 => ?_) (fun c_18 => ?_)
    · refine lv_aload_n hx hb dM_floor_25 rfl (lv_at hl 0 rfl) ?_
      refine lv_iload_n hx hb dM_floor_26 rfl (lv_at hl 1 rfl) ?_
      refine lv_aload_n hx hb dM_floor_27 rfl (lv_at hl 0 rfl) ?_
      refine ka_get (ci := 4) (C := RM) (T := TM) (N := 26) hx hb hts inM hown hK hP (q := 0) hm.1 rfl 1 (by decide) (hts _ tw_385) (fun _ h9 => h9) rfl dM_floor_28 ?_
      refine lv_idiv hx hb dM_floor_31 (nI_ne0 (by omega) (by omega)) ?_
      refine lv_iload_n hx hb dM_floor_32 rfl (lv_at hl 1 rfl) ?_
      refine lv_aload_n hx hb dM_floor_33 rfl (lv_at hl 0 rfl) ?_
      refine ka_get (ci := 4) (C := RM) (T := TM) (N := 26) hx hb hts inM hown hK hP (q := 0) hm.1 rfl 1 (by decide) (hts _ tw_385) (fun _ h9 => h9) rfl dM_floor_34 ?_
      refine lv_irem hx hb dM_floor_37 (nI_ne0 (by omega) (by omega)) ?_
      refine vp_callSl (W.runV (C := RM) (As := [.int (id / (nI (m.1 1))), .int (id - id / (nI (m.1 1)) * (nI (m.1 1)))]) (rest := []) ⟨hx, hb, hml, hown, hts⟩ (c_M_floorOf l D cI cL cQ d κ m hm hB _ (id / (nI (m.1 1))) (id - id / (nI (m.1 1)) * (nI (m.1 1))) (isThere_64 hB (by assumption) (by assumption))) (cwV 2 hts (k_gV tw_545 tw_547 tw_33 tw_41 tw_548) rfl rfl rfl (by decide +kernel) ⟨Nat.le_of_ble_eq_true rfl, Nat.le_of_ble_eq_true rfl⟩) (kPreV hP hK (q := 0) hm.1 rfl) rfl rfl hl.1 rfl (lv_room (Nat.le_of_ble_eq_true rfl)) dM_floor_38 ⟨Nat.le_of_ble_eq_true rfl, Nat.le_of_ble_eq_true rfl⟩) (fun r_38 e_38 => ?_)
      subst e_38
      exact W.lret (v := f_M_floorOf m (id / (nI (m.1 1))) (id - id / (nI (m.1 1)) * (nI (m.1 1)))) hx hb hr (fun t ht hW => ⟨_, rfl, by rw [f_M_floor, if_neg c_5, if_pos c_18], ht⟩) (fun q h => by cases h) dM_floor_41
    · refine lv_lconst (v := 0) hx hb dM_floor_21 (by decide) ?_
      refine lv_goto (tgt := 41) hx hb dM_floor_22 (by decide) ?_
      exact W.lret (v := 0) hx hb hr (fun t ht hW => ⟨_, rfl, by rw [f_M_floor, if_neg c_5, if_neg c_18], ht⟩) (fun q h => by cases h) dM_floor_41

theorem dM_fits_0 : decode prog_6_method_33_code 0 = .ok (.aload_n 0, 1) := by decide +kernel
theorem dM_fits_1 : decode prog_6_method_33_code 1 = .ok (.iload_n 1, 1) := by decide +kernel
theorem dM_fits_2 : decode prog_6_method_33_code 2 = .ok (.invokevirtual 166, 3) := by decide +kernel
theorem dM_fits_5 : decode prog_6_method_33_code 5 = .ok (.lconst 0, 1) := by decide +kernel
theorem dM_fits_6 : decode prog_6_method_33_code 6 = .ok (.lcmp, 1) := by decide +kernel
theorem dM_fits_7 : decode prog_6_method_33_code 7 = .ok (.ifCond .ge 23, 3) := by decide +kernel
theorem dM_fits_10 : decode prog_6_method_33_code 10 = .ok (.aload_n 0, 1) := by decide +kernel
theorem dM_fits_11 : decode prog_6_method_33_code 11 = .ok (.iload_n 1, 1) := by decide +kernel
theorem dM_fits_12 : decode prog_6_method_33_code 12 = .ok (.invokevirtual 169, 3) := by decide +kernel
theorem dM_fits_15 : decode prog_6_method_33_code 15 = .ok (.aload_n 0, 1) := by decide +kernel
theorem dM_fits_16 : decode prog_6_method_33_code 16 = .ok (.iload_n 1, 1) := by decide +kernel
theorem dM_fits_17 : decode prog_6_method_33_code 17 = .ok (.invokevirtual 166, 3) := by decide +kernel
theorem dM_fits_20 : decode prog_6_method_33_code 20 = .ok (.ladd, 1) := by decide +kernel
theorem dM_fits_21 : decode prog_6_method_33_code 21 = .ok (.aload_n 0, 1) := by decide +kernel
theorem dM_fits_22 : decode prog_6_method_33_code 22 = .ok (.iload_n 1, 1) := by decide +kernel
theorem dM_fits_23 : decode prog_6_method_33_code 23 = .ok (.invokevirtual 172, 3) := by decide +kernel
theorem dM_fits_26 : decode prog_6_method_33_code 26 = .ok (.lcmp, 1) := by decide +kernel
theorem dM_fits_27 : decode prog_6_method_33_code 27 = .ok (.ifCond .lt 7, 3) := by decide +kernel
theorem dM_fits_30 : decode prog_6_method_33_code 30 = .ok (.iconst 1, 1) := by decide +kernel
theorem dM_fits_31 : decode prog_6_method_33_code 31 = .ok (.goto 4, 3) := by decide +kernel
theorem dM_fits_34 : decode prog_6_method_33_code 34 = .ok (.iconst 0, 1) := by decide +kernel
theorem dM_fits_35 : decode prog_6_method_33_code 35 = .ok (.ireturn, 1) := by decide +kernel
def f_M_fits (m : MS) (id : Int32) : Int32 := if (f_M_net m id) < 0 then (if ((f_M_value m id) + (f_M_net m id)) < (f_M_floor m id) then 0 else 1) else 1
theorem b_M_fits (m : MS) (id : Int32) : f_M_fits m id = 0 ∨ f_M_fits m id = 1 := by
  unfold f_M_fits
  repeat' (first | split | exact Or.inl rfl | exact Or.inr rfl)
set_option maxHeartbeats 4000000 in
set_option maxRecDepth 100000 in
theorem c_M_fits (l : Launch) (D : va_G) (cI cL cQ : ClassId) (d : Nat → Nat) (κ : Nat → Option va_E) (m : MS) (hm : IsM cI cL d κ m) (hB : MB m) (sz : Nat) (id : Int32)  : Met l yM_fits wM_fits { frames := 4, cells := 0, slots := 0, locals := 99 } (va_Pc [.ref (d 0), .int (id)] (kC D vCl (kT cI cL cQ) d κ sz)) (vp_Si (fun r => r = f_M_fits m id)) 0 0 (fun _ => False) := by
  refine kMet (by decide) (Nat.le_of_ble_eq_true rfl) ?_
  intro p0 e0 s0 m0 below0 meth0 c0 hx hb hr hml hown hlocks hin hts hsz hP hK ls hl
  have hl : lv_has ls 2 [(0, .ref (d 0)), (1, .int (id))] := hl
  have hB9 := hB
  obtain ⟨hb0, hb1, hb2, hb3, hb4, hb5, hb6, hb7, hb8, hb9, hb10⟩ := hB9
  refine lv_aload_n hx hb dM_fits_0 rfl (lv_at hl 0 rfl) ?_
  refine lv_iload_n hx hb dM_fits_1 rfl (lv_at hl 1 rfl) ?_
  refine vp_callSl (W.runV (C := RM) (As := [.int (id)]) (rest := []) ⟨hx, hb, hml, hown, hts⟩ (c_M_net l D cI cL cQ d κ m hm hB _ id) (cwV 1 hts (k_gV tw_599 tw_587 tw_588 tw_41 tw_589) rfl rfl rfl (by decide +kernel) ⟨Nat.le_of_ble_eq_true rfl, Nat.le_of_ble_eq_true rfl⟩) (kPreV hP hK (q := 0) hm.1 rfl) rfl rfl hl.1 rfl (lv_room (Nat.le_of_ble_eq_true rfl)) dM_fits_2 ⟨Nat.le_of_ble_eq_true rfl, Nat.le_of_ble_eq_true rfl⟩) (fun r_2 e_2 => ?_)
  subst e_2
  refine lv_lconst (v := 0) hx hb dM_fits_5 (by decide) ?_
  refine kl_ge (tgt := 30) hx hb dM_fits_6 dM_fits_7 (by decide) (fun c_6 => ?_) (fun c_6 => ?_)
  · refine lv_iconst (v := 1) hx hb dM_fits_30 (by decide) ?_
    refine lv_goto (tgt := 35) hx hb dM_fits_31 (by decide) ?_
    exact W.zret (v := 1) hx hb hr k_nar1 (fun t ht hW => ⟨_, rfl, by rw [f_M_fits, if_neg c_6], ht⟩) (fun q h => by cases h) dM_fits_35
  · refine lv_aload_n hx hb dM_fits_10 rfl (lv_at hl 0 rfl) ?_
    refine lv_iload_n hx hb dM_fits_11 rfl (lv_at hl 1 rfl) ?_
    refine vp_callSl (W.runV (C := RM) (As := [.int (id)]) (rest := []) ⟨hx, hb, hml, hown, hts⟩ (c_M_value l D cI cL cQ d κ m hm hB _ id) (cwV 1 hts (k_gV tw_600 tw_601 tw_602 tw_41 tw_603) rfl rfl rfl (by decide +kernel) ⟨Nat.le_of_ble_eq_true rfl, Nat.le_of_ble_eq_true rfl⟩) (kPreV hP hK (q := 0) hm.1 rfl) rfl rfl hl.1 rfl (lv_room (Nat.le_of_ble_eq_true rfl)) dM_fits_12 ⟨Nat.le_of_ble_eq_true rfl, Nat.le_of_ble_eq_true rfl⟩) (fun r_12 e_12 => ?_)
    subst e_12
    refine lv_aload_n hx hb dM_fits_15 rfl (lv_at hl 0 rfl) ?_
    refine lv_iload_n hx hb dM_fits_16 rfl (lv_at hl 1 rfl) ?_
    refine vp_callSl (W.runV (C := RM) (As := [.int (id)]) (rest := [.long (f_M_value m id)]) ⟨hx, hb, hml, hown, hts⟩ (c_M_net l D cI cL cQ d κ m hm hB _ id) (cwV 1 hts (k_gV tw_599 tw_587 tw_588 tw_41 tw_589) rfl rfl rfl (by decide +kernel) ⟨Nat.le_of_ble_eq_true rfl, Nat.le_of_ble_eq_true rfl⟩) (kPreV hP hK (q := 0) hm.1 rfl) rfl rfl hl.1 rfl (lv_room (Nat.le_of_ble_eq_true rfl)) dM_fits_17 ⟨Nat.le_of_ble_eq_true rfl, Nat.le_of_ble_eq_true rfl⟩) (fun r_17 e_17 => ?_)
    subst e_17
    refine lv_ladd hx hb dM_fits_20 ?_
    refine lv_aload_n hx hb dM_fits_21 rfl (lv_at hl 0 rfl) ?_
    refine lv_iload_n hx hb dM_fits_22 rfl (lv_at hl 1 rfl) ?_
    refine vp_callSl (W.runV (C := RM) (As := [.int (id)]) (rest := [.long ((f_M_value m id) + (f_M_net m id))]) ⟨hx, hb, hml, hown, hts⟩ (c_M_floor l D cI cL cQ d κ m hm hB _ id) (cwV 1 hts (k_gV tw_604 tw_605 tw_606 tw_41 tw_607) rfl rfl rfl (by decide +kernel) ⟨Nat.le_of_ble_eq_true rfl, Nat.le_of_ble_eq_true rfl⟩) (kPreV hP hK (q := 0) hm.1 rfl) rfl rfl hl.1 rfl (lv_room (Nat.le_of_ble_eq_true rfl)) dM_fits_23 ⟨Nat.le_of_ble_eq_true rfl, Nat.le_of_ble_eq_true rfl⟩) (fun r_23 e_23 => ?_)
    subst e_23
    refine kl_lt (tgt := 34) hx hb dM_fits_26 dM_fits_27 (by decide) (fun c_26 => ?_) (fun c_26 => ?_)
    · refine lv_iconst (v := 0) hx hb dM_fits_34 (by decide) ?_
      exact W.zret (v := 0) hx hb hr k_nar0 (fun t ht hW => ⟨_, rfl, by rw [f_M_fits, if_pos c_6, if_pos c_26], ht⟩) (fun q h => by cases h) dM_fits_35
    · refine lv_iconst (v := 1) hx hb dM_fits_30 (by decide) ?_
      refine lv_goto (tgt := 35) hx hb dM_fits_31 (by decide) ?_
      exact W.zret (v := 1) hx hb hr k_nar1 (fun t ht hW => ⟨_, rfl, by rw [f_M_fits, if_pos c_6, if_neg c_26], ht⟩) (fun q h => by cases h) dM_fits_35

theorem dM_holds_0 : decode prog_6_method_34_code 0 = .ok (.iconst 1, 1) := by decide +kernel
theorem dM_holds_1 : decode prog_6_method_34_code 1 = .ok (.istore_n 1, 1) := by decide +kernel
theorem dM_holds_2 : decode prog_6_method_34_code 2 = .ok (.iconst 0, 1) := by decide +kernel
theorem dM_holds_3 : decode prog_6_method_34_code 3 = .ok (.istore_n 2, 1) := by decide +kernel
theorem dM_holds_4 : decode prog_6_method_34_code 4 = .ok (.iload_n 2, 1) := by decide +kernel
theorem dM_holds_5 : decode prog_6_method_34_code 5 = .ok (.aload_n 0, 1) := by decide +kernel
theorem dM_holds_6 : decode prog_6_method_34_code 6 = .ok (.getfield 160, 3) := by decide +kernel
theorem dM_holds_9 : decode prog_6_method_34_code 9 = .ok (.if_icmp .ge 143, 3) := by decide +kernel
theorem dM_holds_12 : decode prog_6_method_34_code 12 = .ok (.aload_n 0, 1) := by decide +kernel
theorem dM_holds_13 : decode prog_6_method_34_code 13 = .ok (.getfield 66, 3) := by decide +kernel
theorem dM_holds_16 : decode prog_6_method_34_code 16 = .ok (.aload_n 0, 1) := by decide +kernel
theorem dM_holds_17 : decode prog_6_method_34_code 17 = .ok (.getfield 69, 3) := by decide +kernel
theorem dM_holds_20 : decode prog_6_method_34_code 20 = .ok (.imul, 1) := by decide +kernel
theorem dM_holds_21 : decode prog_6_method_34_code 21 = .ok (.istore_n 3, 1) := by decide +kernel
theorem dM_holds_22 : decode prog_6_method_34_code 22 = .ok (.iload_n 1, 1) := by decide +kernel
theorem dM_holds_23 : decode prog_6_method_34_code 23 = .ok (.ifCond .eq 57, 3) := by decide +kernel
theorem dM_holds_26 : decode prog_6_method_34_code 26 = .ok (.aload_n 0, 1) := by decide +kernel
theorem dM_holds_27 : decode prog_6_method_34_code 27 = .ok (.aload_n 0, 1) := by decide +kernel
theorem dM_holds_28 : decode prog_6_method_34_code 28 = .ok (.getfield 54, 3) := by decide +kernel
theorem dM_holds_31 : decode prog_6_method_34_code 31 = .ok (.iload_n 2, 1) := by decide +kernel
theorem dM_holds_32 : decode prog_6_method_34_code 32 = .ok (.iaload, 1) := by decide +kernel
theorem dM_holds_33 : decode prog_6_method_34_code 33 = .ok (.aload_n 0, 1) := by decide +kernel
theorem dM_holds_34 : decode prog_6_method_34_code 34 = .ok (.getfield 69, 3) := by decide +kernel
theorem dM_holds_37 : decode prog_6_method_34_code 37 = .ok (.imul, 1) := by decide +kernel
theorem dM_holds_38 : decode prog_6_method_34_code 38 = .ok (.aload_n 0, 1) := by decide +kernel
theorem dM_holds_39 : decode prog_6_method_34_code 39 = .ok (.getfield 60, 3) := by decide +kernel
theorem dM_holds_42 : decode prog_6_method_34_code 42 = .ok (.iload_n 2, 1) := by decide +kernel
theorem dM_holds_43 : decode prog_6_method_34_code 43 = .ok (.iaload, 1) := by decide +kernel
theorem dM_holds_44 : decode prog_6_method_34_code 44 = .ok (.iadd, 1) := by decide +kernel
theorem dM_holds_45 : decode prog_6_method_34_code 45 = .ok (.invokevirtual 175, 3) := by decide +kernel
theorem dM_holds_48 : decode prog_6_method_34_code 48 = .ok (.ifCond .eq 32, 3) := by decide +kernel
theorem dM_holds_51 : decode prog_6_method_34_code 51 = .ok (.aload_n 0, 1) := by decide +kernel
theorem dM_holds_52 : decode prog_6_method_34_code 52 = .ok (.aload_n 0, 1) := by decide +kernel
theorem dM_holds_53 : decode prog_6_method_34_code 53 = .ok (.getfield 57, 3) := by decide +kernel
theorem dM_holds_56 : decode prog_6_method_34_code 56 = .ok (.iload_n 2, 1) := by decide +kernel
theorem dM_holds_57 : decode prog_6_method_34_code 57 = .ok (.iaload, 1) := by decide +kernel
theorem dM_holds_58 : decode prog_6_method_34_code 58 = .ok (.aload_n 0, 1) := by decide +kernel
theorem dM_holds_59 : decode prog_6_method_34_code 59 = .ok (.getfield 69, 3) := by decide +kernel
theorem dM_holds_62 : decode prog_6_method_34_code 62 = .ok (.imul, 1) := by decide +kernel
theorem dM_holds_63 : decode prog_6_method_34_code 63 = .ok (.aload_n 0, 1) := by decide +kernel
theorem dM_holds_64 : decode prog_6_method_34_code 64 = .ok (.getfield 60, 3) := by decide +kernel
theorem dM_holds_67 : decode prog_6_method_34_code 67 = .ok (.iload_n 2, 1) := by decide +kernel
theorem dM_holds_68 : decode prog_6_method_34_code 68 = .ok (.iaload, 1) := by decide +kernel
theorem dM_holds_69 : decode prog_6_method_34_code 69 = .ok (.iadd, 1) := by decide +kernel
theorem dM_holds_70 : decode prog_6_method_34_code 70 = .ok (.invokevirtual 175, 3) := by decide +kernel
theorem dM_holds_73 : decode prog_6_method_34_code 73 = .ok (.ifCond .eq 7, 3) := by decide +kernel
theorem dM_holds_76 : decode prog_6_method_34_code 76 = .ok (.iconst 1, 1) := by decide +kernel
theorem dM_holds_77 : decode prog_6_method_34_code 77 = .ok (.goto 4, 3) := by decide +kernel
theorem dM_holds_80 : decode prog_6_method_34_code 80 = .ok (.iconst 0, 1) := by decide +kernel
theorem dM_holds_81 : decode prog_6_method_34_code 81 = .ok (.istore_n 1, 1) := by decide +kernel
theorem dM_holds_82 : decode prog_6_method_34_code 82 = .ok (.iload_n 1, 1) := by decide +kernel
theorem dM_holds_83 : decode prog_6_method_34_code 83 = .ok (.ifCond .eq 61, 3) := by decide +kernel
theorem dM_holds_86 : decode prog_6_method_34_code 86 = .ok (.aload_n 0, 1) := by decide +kernel
theorem dM_holds_87 : decode prog_6_method_34_code 87 = .ok (.iload_n 3, 1) := by decide +kernel
theorem dM_holds_88 : decode prog_6_method_34_code 88 = .ok (.aload_n 0, 1) := by decide +kernel
theorem dM_holds_89 : decode prog_6_method_34_code 89 = .ok (.getfield 54, 3) := by decide +kernel
theorem dM_holds_92 : decode prog_6_method_34_code 92 = .ok (.iload_n 2, 1) := by decide +kernel
theorem dM_holds_93 : decode prog_6_method_34_code 93 = .ok (.iaload, 1) := by decide +kernel
theorem dM_holds_94 : decode prog_6_method_34_code 94 = .ok (.aload_n 0, 1) := by decide +kernel
theorem dM_holds_95 : decode prog_6_method_34_code 95 = .ok (.getfield 66, 3) := by decide +kernel
theorem dM_holds_98 : decode prog_6_method_34_code 98 = .ok (.imul, 1) := by decide +kernel
theorem dM_holds_99 : decode prog_6_method_34_code 99 = .ok (.iadd, 1) := by decide +kernel
theorem dM_holds_100 : decode prog_6_method_34_code 100 = .ok (.aload_n 0, 1) := by decide +kernel
theorem dM_holds_101 : decode prog_6_method_34_code 101 = .ok (.getfield 57, 3) := by decide +kernel
theorem dM_holds_104 : decode prog_6_method_34_code 104 = .ok (.iload_n 2, 1) := by decide +kernel
theorem dM_holds_105 : decode prog_6_method_34_code 105 = .ok (.iaload, 1) := by decide +kernel
theorem dM_holds_106 : decode prog_6_method_34_code 106 = .ok (.iadd, 1) := by decide +kernel
theorem dM_holds_107 : decode prog_6_method_34_code 107 = .ok (.invokevirtual 175, 3) := by decide +kernel
theorem dM_holds_110 : decode prog_6_method_34_code 110 = .ok (.ifCond .eq 34, 3) := by decide +kernel
theorem dM_holds_113 : decode prog_6_method_34_code 113 = .ok (.aload_n 0, 1) := by decide +kernel
theorem dM_holds_114 : decode prog_6_method_34_code 114 = .ok (.iload_n 3, 1) := by decide +kernel
theorem dM_holds_115 : decode prog_6_method_34_code 115 = .ok (.aload_n 0, 1) := by decide +kernel
theorem dM_holds_116 : decode prog_6_method_34_code 116 = .ok (.getfield 57, 3) := by decide +kernel
theorem dM_holds_119 : decode prog_6_method_34_code 119 = .ok (.iload_n 2, 1) := by decide +kernel
theorem dM_holds_120 : decode prog_6_method_34_code 120 = .ok (.iaload, 1) := by decide +kernel
theorem dM_holds_121 : decode prog_6_method_34_code 121 = .ok (.aload_n 0, 1) := by decide +kernel
theorem dM_holds_122 : decode prog_6_method_34_code 122 = .ok (.getfield 66, 3) := by decide +kernel
theorem dM_holds_125 : decode prog_6_method_34_code 125 = .ok (.imul, 1) := by decide +kernel
theorem dM_holds_126 : decode prog_6_method_34_code 126 = .ok (.iadd, 1) := by decide +kernel
theorem dM_holds_127 : decode prog_6_method_34_code 127 = .ok (.aload_n 0, 1) := by decide +kernel
theorem dM_holds_128 : decode prog_6_method_34_code 128 = .ok (.getfield 54, 3) := by decide +kernel
theorem dM_holds_131 : decode prog_6_method_34_code 131 = .ok (.iload_n 2, 1) := by decide +kernel
theorem dM_holds_132 : decode prog_6_method_34_code 132 = .ok (.iaload, 1) := by decide +kernel
theorem dM_holds_133 : decode prog_6_method_34_code 133 = .ok (.iadd, 1) := by decide +kernel
theorem dM_holds_134 : decode prog_6_method_34_code 134 = .ok (.invokevirtual 175, 3) := by decide +kernel
theorem dM_holds_137 : decode prog_6_method_34_code 137 = .ok (.ifCond .eq 7, 3) := by decide +kernel
theorem dM_holds_140 : decode prog_6_method_34_code 140 = .ok (.iconst 1, 1) := by decide +kernel
theorem dM_holds_141 : decode prog_6_method_34_code 141 = .ok (.goto 4, 3) := by decide +kernel
theorem dM_holds_144 : decode prog_6_method_34_code 144 = .ok (.iconst 0, 1) := by decide +kernel
theorem dM_holds_145 : decode prog_6_method_34_code 145 = .ok (.istore_n 1, 1) := by decide +kernel
theorem dM_holds_146 : decode prog_6_method_34_code 146 = .ok (.iinc 2 1, 3) := by decide +kernel
theorem dM_holds_149 : decode prog_6_method_34_code 149 = .ok (.goto (-145), 3) := by decide +kernel
theorem dM_holds_152 : decode prog_6_method_34_code 152 = .ok (.iload_n 1, 1) := by decide +kernel
theorem dM_holds_153 : decode prog_6_method_34_code 153 = .ok (.ireturn, 1) := by decide +kernel
def f_M_holds_l (m : MS) : Nat → Nat → Int32 → Int32
  | 0, _, _ => 0
  | n + 1, k, good => if (nI (m.1 7)) ≤ (nI k) then good else (if good = 0 then (f_M_holds_l m n (k + 1) 0) else (if (f_M_fits m ((((m.2.2.1 8) (nI k).toNatClampNeg) * (nI (m.1 1))) + ((m.2.2.1 10) (nI k).toNatClampNeg))) = 0 then (f_M_holds_l m n (k + 1) 0) else (if (f_M_fits m ((((m.2.2.1 9) (nI k).toNatClampNeg) * (nI (m.1 1))) + ((m.2.2.1 10) (nI k).toNatClampNeg))) = 0 then (f_M_holds_l m n (k + 1) 0) else (if (f_M_fits m ((((nI (m.1 0)) * (nI (m.1 1))) + (((m.2.2.1 8) (nI k).toNatClampNeg) * (nI (m.1 0)))) + ((m.2.2.1 9) (nI k).toNatClampNeg))) = 0 then (f_M_holds_l m n (k + 1) 0) else (if (f_M_fits m ((((nI (m.1 0)) * (nI (m.1 1))) + (((m.2.2.1 9) (nI k).toNatClampNeg) * (nI (m.1 0)))) + ((m.2.2.1 8) (nI k).toNatClampNeg))) = 0 then (f_M_holds_l m n (k + 1) 0) else (f_M_holds_l m n (k + 1) 1))))))
theorem f_M_holds_l_s (m : MS) (n : Nat) (k : Nat) (good : Int32) : f_M_holds_l m (n + 1) k good = (if (nI (m.1 7)) ≤ (nI k) then good else (if good = 0 then (f_M_holds_l m n (k + 1) 0) else (if (f_M_fits m ((((m.2.2.1 8) (nI k).toNatClampNeg) * (nI (m.1 1))) + ((m.2.2.1 10) (nI k).toNatClampNeg))) = 0 then (f_M_holds_l m n (k + 1) 0) else (if (f_M_fits m ((((m.2.2.1 9) (nI k).toNatClampNeg) * (nI (m.1 1))) + ((m.2.2.1 10) (nI k).toNatClampNeg))) = 0 then (f_M_holds_l m n (k + 1) 0) else (if (f_M_fits m ((((nI (m.1 0)) * (nI (m.1 1))) + (((m.2.2.1 8) (nI k).toNatClampNeg) * (nI (m.1 0)))) + ((m.2.2.1 9) (nI k).toNatClampNeg))) = 0 then (f_M_holds_l m n (k + 1) 0) else (if (f_M_fits m ((((nI (m.1 0)) * (nI (m.1 1))) + (((m.2.2.1 9) (nI k).toNatClampNeg) * (nI (m.1 0)))) + ((m.2.2.1 8) (nI k).toNatClampNeg))) = 0 then (f_M_holds_l m n (k + 1) 0) else (f_M_holds_l m n (k + 1) 1))))))) := rfl
def f_M_holds (m : MS) : Int32 := f_M_holds_l m (m.1 7 + 1) 0 1
set_option maxHeartbeats 4000000 in
set_option maxRecDepth 100000 in
theorem c_M_holds (l : Launch) (D : va_G) (cI cL cQ : ClassId) (d : Nat → Nat) (κ : Nat → Option va_E) (m : MS) (hm : IsM cI cL d κ m) (hB : MB m) (sz : Nat)   : Met l yM_holds wM_holds { frames := 5, cells := 0, slots := 0, locals := 120 } (va_Pc [.ref (d 0)] (kC D vCl (kT cI cL cQ) d κ sz)) (vp_Si (fun r => r = f_M_holds m)) 0 0 (fun _ => False) := by
  refine kMet (by decide) (Nat.le_of_ble_eq_true rfl) ?_
  intro p0 e0 s0 m0 below0 meth0 c0 hx hb hr hml hown hlocks hin hts hsz hP hK ls hl
  have hl : lv_has ls 4 [(0, .ref (d 0))] := hl
  have hB9 := hB
  obtain ⟨hb0, hb1, hb2, hb3, hb4, hb5, hb6, hb7, hb8, hb9, hb10⟩ := hB9
  refine lv_iconst (v := 1) hx hb dM_holds_0 (by decide) ?_
  refine lv_istore_n (lv' := [(1, .int (1)), (0, .ref (d 0))]) hx hb dM_holds_1 rfl hl (by decide) rfl (fun ls hl => ?_)
  refine lv_iconst (v := 0) hx hb dM_holds_2 (by decide) ?_
  refine lv_istore_n (lv' := [(2, .int (0)), (1, .int (1)), (0, .ref (d 0))]) hx hb dM_holds_3 rfl hl (by decide) rfl (fun ls hl => ?_)
  refine k_rec (σ := Nat × Int32) (fun n z9 ls => z9.1 ≤ m.1 7 ∧ m.1 7 < z9.1 + n ∧ f_M_holds_l m n z9.1 z9.2 = f_M_holds m ∧ (z9.2 = 0 ∨ z9.2 = 1) ∧ lv_has ls 4 [(2, .int (nI z9.1)), (1, .int z9.2), (0, .ref (d 0))]) (m.1 7 + 1) (0, 1) ⟨by omega, by omega, by rw [f_M_holds], Or.inr rfl, lv_sub hl [0, 1, 2] rfl⟩ ?_
  intro n z9 ls hI ih
  obtain ⟨k, good⟩ := z9
  obtain ⟨hk, hn, hE, hx9, hl⟩ := hI
  dsimp only at hk hn hE hx9 hl
  obtain ⟨n, rfl⟩ : ∃ q, n = q + 1 := ⟨n - 1, by omega⟩
  refine lv_iload_n hx hb dM_holds_4 rfl (lv_at hl 0 rfl) ?_
  refine lv_aload_n hx hb dM_holds_5 rfl (lv_at hl 2 rfl) ?_
  refine ka_get (ci := 4) (C := RM) (T := TM) (N := 26) hx hb hts inM hown hK hP (q := 0) hm.1 rfl 21 (by decide) (hts _ tw_405) (fun _ h9 => h9) rfl dM_holds_6 ?_
  refine lv_icmp_ge (tgt := 152) hx hb dM_holds_9 (by decide) (fun c_9 => ?_) (fun c_9 => ?_)
  · refine lv_iload_n hx hb dM_holds_152 rfl (lv_at hl 1 rfl) ?_
    exact W.zret (v := good) hx hb hr (k_nar hx9) (fun t ht hW => ⟨_, rfl, by rw [← hE, f_M_holds_l_s, if_pos c_9], ht⟩) (fun q h => by cases h) dM_holds_153
  · have hlt : k < m.1 7 := Nat.lt_of_not_le (fun q => c_9 (nI_le q (by omega)))
    refine lv_aload_n hx hb dM_holds_12 rfl (lv_at hl 2 rfl) ?_
    refine ka_get (ci := 4) (C := RM) (T := TM) (N := 26) hx hb hts inM hown hK hP (q := 0) hm.1 rfl 0 (by decide) (hts _ tw_384) (fun _ h9 => h9) rfl dM_holds_13 ?_
    refine lv_aload_n hx hb dM_holds_16 rfl (lv_at hl 2 rfl) ?_
    refine ka_get (ci := 4) (C := RM) (T := TM) (N := 26) hx hb hts inM hown hK hP (q := 0) hm.1 rfl 1 (by decide) (hts _ tw_385) (fun _ h9 => h9) rfl dM_holds_17 ?_
    refine lv_imul hx hb dM_holds_20 ?_
    refine lv_istore_n (lv' := [(3, .int ((nI (m.1 0)) * (nI (m.1 1)))), (2, .int (nI k)), (1, .int (good)), (0, .ref (d 0))]) hx hb dM_holds_21 rfl hl (by decide) rfl (fun ls hl => ?_)
    refine lv_iload_n hx hb dM_holds_22 rfl (lv_at hl 2 rfl) ?_
    refine lv_if_eq (tgt := 80) hx hb dM_holds_23 (by decide) (fun c_23 => ?_) (fun c_23 => ?_)
    · refine lv_iconst (v := 0) hx hb dM_holds_80 (by decide) ?_
      refine lv_istore_n (lv' := [(1, .int (0)), (3, .int ((nI (m.1 0)) * (nI (m.1 1)))), (2, .int (nI k)), (0, .ref (d 0))]) hx hb dM_holds_81 rfl hl (by decide) rfl (fun ls hl => ?_)
      refine lv_iload_n hx hb dM_holds_82 rfl (lv_at hl 0 rfl) ?_
      refine lv_if_eq (tgt := 144) hx hb dM_holds_83 (by decide) (fun _ => ?_) (fun c => absurd c (by decide))
      refine lv_iconst (v := 0) hx hb dM_holds_144 (by decide) ?_
      refine lv_istore_n (lv' := [(1, .int (0)), (3, .int ((nI (m.1 0)) * (nI (m.1 1)))), (2, .int (nI k)), (0, .ref (d 0))]) hx hb dM_holds_145 rfl hl (by decide) rfl (fun ls hl => ?_)
      refine lv_iinc (v := nI (k + 1)) (lv' := [(2, .int (nI (k + 1))), (1, .int (0)), (3, .int ((nI (m.1 0)) * (nI (m.1 1)))), (0, .ref (d 0))]) hx hb dM_holds_146 hl (k := 2) rfl (nI_add k 1) (by decide) rfl (fun ls hl => ?_)
      refine lv_goto (tgt := 4) hx hb dM_holds_149 (by decide) ?_
      exact ih n (k + 1, 0) ls (by omega) ⟨by omega, by omega, by rw [← hE, f_M_holds_l_s, if_neg c_9, if_pos c_23], by first | exact Or.inl rfl | exact Or.inr rfl | assumption, lv_sub hl [0, 1, 3] rfl⟩
    · refine lv_aload_n hx hb dM_holds_26 rfl (lv_at hl 3 rfl) ?_
      refine lv_aload_n hx hb dM_holds_27 rfl (lv_at hl 3 rfl) ?_
      refine ka_get (ci := 4) (C := RM) (T := TM) (N := 26) hx hb hts inM hown hK hP (q := 0) hm.1 rfl 22 (by decide) (hts _ tw_406) (fun _ h9 => h9) rfl dM_holds_28 ?_
      refine lv_iload_n hx hb dM_holds_31 rfl (lv_at hl 1 rfl) ?_
      refine ka_iald hx hb hK hP 0 (q := 14) hm.2.2.2.2.2.2.2.2.2.2.2.2.2.2.1 rfl (by first | assumption | exact vp_in_nI (by omega) (by omega)) dM_holds_32 ?_
      refine lv_aload_n hx hb dM_holds_33 rfl (lv_at hl 3 rfl) ?_
      refine ka_get (ci := 4) (C := RM) (T := TM) (N := 26) hx hb hts inM hown hK hP (q := 0) hm.1 rfl 1 (by decide) (hts _ tw_385) (fun _ h9 => h9) rfl dM_holds_34 ?_
      refine lv_imul hx hb dM_holds_37 ?_
      refine lv_aload_n hx hb dM_holds_38 rfl (lv_at hl 3 rfl) ?_
      refine ka_get (ci := 4) (C := RM) (T := TM) (N := 26) hx hb hts inM hown hK hP (q := 0) hm.1 rfl 24 (by decide) (hts _ tw_408) (fun _ h9 => h9) rfl dM_holds_39 ?_
      refine lv_iload_n hx hb dM_holds_42 rfl (lv_at hl 1 rfl) ?_
      refine ka_iald hx hb hK hP 0 (q := 16) hm.2.2.2.2.2.2.2.2.2.2.2.2.2.2.2.2.1 rfl (by first | assumption | exact vp_in_nI (by omega) (by omega)) dM_holds_43 ?_
      refine lv_iadd hx hb dM_holds_44 ?_
      refine vp_callSi (W.runV (C := RM) (As := [.int ((((m.2.2.1 8) (nI k).toNatClampNeg) * (nI (m.1 1))) + ((m.2.2.1 10) (nI k).toNatClampNeg))]) (rest := []) ⟨hx, hb, hml, hown, hts⟩ (c_M_fits l D cI cL cQ d κ m hm hB _ ((((m.2.2.1 8) (nI k).toNatClampNeg) * (nI (m.1 1))) + ((m.2.2.1 10) (nI k).toNatClampNeg))) (cwV 1 hts (k_gV tw_595 tw_597 tw_36 tw_41 tw_598) rfl rfl rfl (by decide +kernel) ⟨Nat.le_of_ble_eq_true rfl, Nat.le_of_ble_eq_true rfl⟩) (kPreV hP hK (q := 0) hm.1 rfl) rfl rfl hl.1 rfl (lv_room (Nat.le_of_ble_eq_true rfl)) dM_holds_45 ⟨Nat.le_of_ble_eq_true rfl, Nat.le_of_ble_eq_true rfl⟩) (fun r_45 e_45 => ?_)
      subst e_45
      refine lv_if_eq (tgt := 80) hx hb dM_holds_48 (by decide) (fun c_48 => ?_) (fun c_48 => ?_)
      · refine lv_iconst (v := 0) hx hb dM_holds_80 (by decide) ?_
        refine lv_istore_n (lv' := [(1, .int (0)), (3, .int ((nI (m.1 0)) * (nI (m.1 1)))), (2, .int (nI k)), (0, .ref (d 0))]) hx hb dM_holds_81 rfl hl (by decide) rfl (fun ls hl => ?_)
        refine lv_iload_n hx hb dM_holds_82 rfl (lv_at hl 0 rfl) ?_
        refine lv_if_eq (tgt := 144) hx hb dM_holds_83 (by decide) (fun _ => ?_) (fun c => absurd c (by decide))
        refine lv_iconst (v := 0) hx hb dM_holds_144 (by decide) ?_
        refine lv_istore_n (lv' := [(1, .int (0)), (3, .int ((nI (m.1 0)) * (nI (m.1 1)))), (2, .int (nI k)), (0, .ref (d 0))]) hx hb dM_holds_145 rfl hl (by decide) rfl (fun ls hl => ?_)
        refine lv_iinc (v := nI (k + 1)) (lv' := [(2, .int (nI (k + 1))), (1, .int (0)), (3, .int ((nI (m.1 0)) * (nI (m.1 1)))), (0, .ref (d 0))]) hx hb dM_holds_146 hl (k := 2) rfl (nI_add k 1) (by decide) rfl (fun ls hl => ?_)
        refine lv_goto (tgt := 4) hx hb dM_holds_149 (by decide) ?_
        exact ih n (k + 1, 0) ls (by omega) ⟨by omega, by omega, by rw [← hE, f_M_holds_l_s, if_neg c_9, if_neg c_23, if_pos c_48], by first | exact Or.inl rfl | exact Or.inr rfl | assumption, lv_sub hl [0, 1, 3] rfl⟩
      · refine lv_aload_n hx hb dM_holds_51 rfl (lv_at hl 3 rfl) ?_
        refine lv_aload_n hx hb dM_holds_52 rfl (lv_at hl 3 rfl) ?_
        refine ka_get (ci := 4) (C := RM) (T := TM) (N := 26) hx hb hts inM hown hK hP (q := 0) hm.1 rfl 23 (by decide) (hts _ tw_407) (fun _ h9 => h9) rfl dM_holds_53 ?_
        refine lv_iload_n hx hb dM_holds_56 rfl (lv_at hl 1 rfl) ?_
        refine ka_iald hx hb hK hP 0 (q := 15) hm.2.2.2.2.2.2.2.2.2.2.2.2.2.2.2.1 rfl (by first | assumption | exact vp_in_nI (by omega) (by omega)) dM_holds_57 ?_
        refine lv_aload_n hx hb dM_holds_58 rfl (lv_at hl 3 rfl) ?_
        refine ka_get (ci := 4) (C := RM) (T := TM) (N := 26) hx hb hts inM hown hK hP (q := 0) hm.1 rfl 1 (by decide) (hts _ tw_385) (fun _ h9 => h9) rfl dM_holds_59 ?_
        refine lv_imul hx hb dM_holds_62 ?_
        refine lv_aload_n hx hb dM_holds_63 rfl (lv_at hl 3 rfl) ?_
        refine ka_get (ci := 4) (C := RM) (T := TM) (N := 26) hx hb hts inM hown hK hP (q := 0) hm.1 rfl 24 (by decide) (hts _ tw_408) (fun _ h9 => h9) rfl dM_holds_64 ?_
        refine lv_iload_n hx hb dM_holds_67 rfl (lv_at hl 1 rfl) ?_
        refine ka_iald hx hb hK hP 0 (q := 16) hm.2.2.2.2.2.2.2.2.2.2.2.2.2.2.2.2.1 rfl (by first | assumption | exact vp_in_nI (by omega) (by omega)) dM_holds_68 ?_
        refine lv_iadd hx hb dM_holds_69 ?_
        refine vp_callSi (W.runV (C := RM) (As := [.int ((((m.2.2.1 9) (nI k).toNatClampNeg) * (nI (m.1 1))) + ((m.2.2.1 10) (nI k).toNatClampNeg))]) (rest := []) ⟨hx, hb, hml, hown, hts⟩ (c_M_fits l D cI cL cQ d κ m hm hB _ ((((m.2.2.1 9) (nI k).toNatClampNeg) * (nI (m.1 1))) + ((m.2.2.1 10) (nI k).toNatClampNeg))) (cwV 1 hts (k_gV tw_595 tw_597 tw_36 tw_41 tw_598) rfl rfl rfl (by decide +kernel) ⟨Nat.le_of_ble_eq_true rfl, Nat.le_of_ble_eq_true rfl⟩) (kPreV hP hK (q := 0) hm.1 rfl) rfl rfl hl.1 rfl (lv_room (Nat.le_of_ble_eq_true rfl)) dM_holds_70 ⟨Nat.le_of_ble_eq_true rfl, Nat.le_of_ble_eq_true rfl⟩) (fun r_70 e_70 => ?_)
        subst e_70
        refine lv_if_eq (tgt := 80) hx hb dM_holds_73 (by decide) (fun c_73 => ?_) (fun c_73 => ?_)
        · refine lv_iconst (v := 0) hx hb dM_holds_80 (by decide) ?_
          refine lv_istore_n (lv' := [(1, .int (0)), (3, .int ((nI (m.1 0)) * (nI (m.1 1)))), (2, .int (nI k)), (0, .ref (d 0))]) hx hb dM_holds_81 rfl hl (by decide) rfl (fun ls hl => ?_)
          refine lv_iload_n hx hb dM_holds_82 rfl (lv_at hl 0 rfl) ?_
          refine lv_if_eq (tgt := 144) hx hb dM_holds_83 (by decide) (fun _ => ?_) (fun c => absurd c (by decide))
          refine lv_iconst (v := 0) hx hb dM_holds_144 (by decide) ?_
          refine lv_istore_n (lv' := [(1, .int (0)), (3, .int ((nI (m.1 0)) * (nI (m.1 1)))), (2, .int (nI k)), (0, .ref (d 0))]) hx hb dM_holds_145 rfl hl (by decide) rfl (fun ls hl => ?_)
          refine lv_iinc (v := nI (k + 1)) (lv' := [(2, .int (nI (k + 1))), (1, .int (0)), (3, .int ((nI (m.1 0)) * (nI (m.1 1)))), (0, .ref (d 0))]) hx hb dM_holds_146 hl (k := 2) rfl (nI_add k 1) (by decide) rfl (fun ls hl => ?_)
          refine lv_goto (tgt := 4) hx hb dM_holds_149 (by decide) ?_
          exact ih n (k + 1, 0) ls (by omega) ⟨by omega, by omega, by rw [← hE, f_M_holds_l_s, if_neg c_9, if_neg c_23, if_neg c_48, if_pos c_73], by first | exact Or.inl rfl | exact Or.inr rfl | assumption, lv_sub hl [0, 1, 3] rfl⟩
        · refine lv_iconst (v := 1) hx hb dM_holds_76 (by decide) ?_
          refine lv_goto (tgt := 81) hx hb dM_holds_77 (by decide) ?_
          refine lv_istore_n (lv' := [(1, .int (1)), (3, .int ((nI (m.1 0)) * (nI (m.1 1)))), (2, .int (nI k)), (0, .ref (d 0))]) hx hb dM_holds_81 rfl hl (by decide) rfl (fun ls hl => ?_)
          refine lv_iload_n hx hb dM_holds_82 rfl (lv_at hl 0 rfl) ?_
          refine lv_if_eq (tgt := 144) hx hb dM_holds_83 (by decide) (fun c => absurd c (by decide)) (fun _ => ?_)
          refine lv_aload_n hx hb dM_holds_86 rfl (lv_at hl 3 rfl) ?_
          refine lv_iload_n hx hb dM_holds_87 rfl (lv_at hl 1 rfl) ?_
          refine lv_aload_n hx hb dM_holds_88 rfl (lv_at hl 3 rfl) ?_
          refine ka_get (ci := 4) (C := RM) (T := TM) (N := 26) hx hb hts inM hown hK hP (q := 0) hm.1 rfl 22 (by decide) (hts _ tw_406) (fun _ h9 => h9) rfl dM_holds_89 ?_
          refine lv_iload_n hx hb dM_holds_92 rfl (lv_at hl 2 rfl) ?_
          refine ka_iald hx hb hK hP 0 (q := 14) hm.2.2.2.2.2.2.2.2.2.2.2.2.2.2.1 rfl (by first | assumption | exact vp_in_nI (by omega) (by omega)) dM_holds_93 ?_
          refine lv_aload_n hx hb dM_holds_94 rfl (lv_at hl 3 rfl) ?_
          refine ka_get (ci := 4) (C := RM) (T := TM) (N := 26) hx hb hts inM hown hK hP (q := 0) hm.1 rfl 0 (by decide) (hts _ tw_384) (fun _ h9 => h9) rfl dM_holds_95 ?_
          refine lv_imul hx hb dM_holds_98 ?_
          refine lv_iadd hx hb dM_holds_99 ?_
          refine lv_aload_n hx hb dM_holds_100 rfl (lv_at hl 3 rfl) ?_
          refine ka_get (ci := 4) (C := RM) (T := TM) (N := 26) hx hb hts inM hown hK hP (q := 0) hm.1 rfl 23 (by decide) (hts _ tw_407) (fun _ h9 => h9) rfl dM_holds_101 ?_
          refine lv_iload_n hx hb dM_holds_104 rfl (lv_at hl 2 rfl) ?_
          refine ka_iald hx hb hK hP 0 (q := 15) hm.2.2.2.2.2.2.2.2.2.2.2.2.2.2.2.1 rfl (by first | assumption | exact vp_in_nI (by omega) (by omega)) dM_holds_105 ?_
          refine lv_iadd hx hb dM_holds_106 ?_
          refine vp_callSi (W.runV (C := RM) (As := [.int ((((nI (m.1 0)) * (nI (m.1 1))) + (((m.2.2.1 8) (nI k).toNatClampNeg) * (nI (m.1 0)))) + ((m.2.2.1 9) (nI k).toNatClampNeg))]) (rest := []) ⟨hx, hb, hml, hown, hts⟩ (c_M_fits l D cI cL cQ d κ m hm hB _ ((((nI (m.1 0)) * (nI (m.1 1))) + (((m.2.2.1 8) (nI k).toNatClampNeg) * (nI (m.1 0)))) + ((m.2.2.1 9) (nI k).toNatClampNeg))) (cwV 1 hts (k_gV tw_595 tw_597 tw_36 tw_41 tw_598) rfl rfl rfl (by decide +kernel) ⟨Nat.le_of_ble_eq_true rfl, Nat.le_of_ble_eq_true rfl⟩) (kPreV hP hK (q := 0) hm.1 rfl) rfl rfl hl.1 rfl (lv_room (Nat.le_of_ble_eq_true rfl)) dM_holds_107 ⟨Nat.le_of_ble_eq_true rfl, Nat.le_of_ble_eq_true rfl⟩) (fun r_107 e_107 => ?_)
          subst e_107
          refine lv_if_eq (tgt := 144) hx hb dM_holds_110 (by decide) (fun c_110 => ?_) (fun c_110 => ?_)
          · refine lv_iconst (v := 0) hx hb dM_holds_144 (by decide) ?_
            refine lv_istore_n (lv' := [(1, .int (0)), (3, .int ((nI (m.1 0)) * (nI (m.1 1)))), (2, .int (nI k)), (0, .ref (d 0))]) hx hb dM_holds_145 rfl hl (by decide) rfl (fun ls hl => ?_)
            refine lv_iinc (v := nI (k + 1)) (lv' := [(2, .int (nI (k + 1))), (1, .int (0)), (3, .int ((nI (m.1 0)) * (nI (m.1 1)))), (0, .ref (d 0))]) hx hb dM_holds_146 hl (k := 2) rfl (nI_add k 1) (by decide) rfl (fun ls hl => ?_)
            refine lv_goto (tgt := 4) hx hb dM_holds_149 (by decide) ?_
            exact ih n (k + 1, 0) ls (by omega) ⟨by omega, by omega, by rw [← hE, f_M_holds_l_s, if_neg c_9, if_neg c_23, if_neg c_48, if_neg c_73, if_pos c_110], by first | exact Or.inl rfl | exact Or.inr rfl | assumption, lv_sub hl [0, 1, 3] rfl⟩
          · refine lv_aload_n hx hb dM_holds_113 rfl (lv_at hl 3 rfl) ?_
            refine lv_iload_n hx hb dM_holds_114 rfl (lv_at hl 1 rfl) ?_
            refine lv_aload_n hx hb dM_holds_115 rfl (lv_at hl 3 rfl) ?_
            refine ka_get (ci := 4) (C := RM) (T := TM) (N := 26) hx hb hts inM hown hK hP (q := 0) hm.1 rfl 23 (by decide) (hts _ tw_407) (fun _ h9 => h9) rfl dM_holds_116 ?_
            refine lv_iload_n hx hb dM_holds_119 rfl (lv_at hl 2 rfl) ?_
            refine ka_iald hx hb hK hP 0 (q := 15) hm.2.2.2.2.2.2.2.2.2.2.2.2.2.2.2.1 rfl (by first | assumption | exact vp_in_nI (by omega) (by omega)) dM_holds_120 ?_
            refine lv_aload_n hx hb dM_holds_121 rfl (lv_at hl 3 rfl) ?_
            refine ka_get (ci := 4) (C := RM) (T := TM) (N := 26) hx hb hts inM hown hK hP (q := 0) hm.1 rfl 0 (by decide) (hts _ tw_384) (fun _ h9 => h9) rfl dM_holds_122 ?_
            refine lv_imul hx hb dM_holds_125 ?_
            refine lv_iadd hx hb dM_holds_126 ?_
            refine lv_aload_n hx hb dM_holds_127 rfl (lv_at hl 3 rfl) ?_
            refine ka_get (ci := 4) (C := RM) (T := TM) (N := 26) hx hb hts inM hown hK hP (q := 0) hm.1 rfl 22 (by decide) (hts _ tw_406) (fun _ h9 => h9) rfl dM_holds_128 ?_
            refine lv_iload_n hx hb dM_holds_131 rfl (lv_at hl 2 rfl) ?_
            refine ka_iald hx hb hK hP 0 (q := 14) hm.2.2.2.2.2.2.2.2.2.2.2.2.2.2.1 rfl (by first | assumption | exact vp_in_nI (by omega) (by omega)) dM_holds_132 ?_
            refine lv_iadd hx hb dM_holds_133 ?_
            refine vp_callSi (W.runV (C := RM) (As := [.int ((((nI (m.1 0)) * (nI (m.1 1))) + (((m.2.2.1 9) (nI k).toNatClampNeg) * (nI (m.1 0)))) + ((m.2.2.1 8) (nI k).toNatClampNeg))]) (rest := []) ⟨hx, hb, hml, hown, hts⟩ (c_M_fits l D cI cL cQ d κ m hm hB _ ((((nI (m.1 0)) * (nI (m.1 1))) + (((m.2.2.1 9) (nI k).toNatClampNeg) * (nI (m.1 0)))) + ((m.2.2.1 8) (nI k).toNatClampNeg))) (cwV 1 hts (k_gV tw_595 tw_597 tw_36 tw_41 tw_598) rfl rfl rfl (by decide +kernel) ⟨Nat.le_of_ble_eq_true rfl, Nat.le_of_ble_eq_true rfl⟩) (kPreV hP hK (q := 0) hm.1 rfl) rfl rfl hl.1 rfl (lv_room (Nat.le_of_ble_eq_true rfl)) dM_holds_134 ⟨Nat.le_of_ble_eq_true rfl, Nat.le_of_ble_eq_true rfl⟩) (fun r_134 e_134 => ?_)
            subst e_134
            refine lv_if_eq (tgt := 144) hx hb dM_holds_137 (by decide) (fun c_137 => ?_) (fun c_137 => ?_)
            · refine lv_iconst (v := 0) hx hb dM_holds_144 (by decide) ?_
              refine lv_istore_n (lv' := [(1, .int (0)), (3, .int ((nI (m.1 0)) * (nI (m.1 1)))), (2, .int (nI k)), (0, .ref (d 0))]) hx hb dM_holds_145 rfl hl (by decide) rfl (fun ls hl => ?_)
              refine lv_iinc (v := nI (k + 1)) (lv' := [(2, .int (nI (k + 1))), (1, .int (0)), (3, .int ((nI (m.1 0)) * (nI (m.1 1)))), (0, .ref (d 0))]) hx hb dM_holds_146 hl (k := 2) rfl (nI_add k 1) (by decide) rfl (fun ls hl => ?_)
              refine lv_goto (tgt := 4) hx hb dM_holds_149 (by decide) ?_
              exact ih n (k + 1, 0) ls (by omega) ⟨by omega, by omega, by rw [← hE, f_M_holds_l_s, if_neg c_9, if_neg c_23, if_neg c_48, if_neg c_73, if_neg c_110, if_pos c_137], by first | exact Or.inl rfl | exact Or.inr rfl | assumption, lv_sub hl [0, 1, 3] rfl⟩
            · refine lv_iconst (v := 1) hx hb dM_holds_140 (by decide) ?_
              refine lv_goto (tgt := 145) hx hb dM_holds_141 (by decide) ?_
              refine lv_istore_n (lv' := [(1, .int (1)), (3, .int ((nI (m.1 0)) * (nI (m.1 1)))), (2, .int (nI k)), (0, .ref (d 0))]) hx hb dM_holds_145 rfl hl (by decide) rfl (fun ls hl => ?_)
              refine lv_iinc (v := nI (k + 1)) (lv' := [(2, .int (nI (k + 1))), (1, .int (1)), (3, .int ((nI (m.1 0)) * (nI (m.1 1)))), (0, .ref (d 0))]) hx hb dM_holds_146 hl (k := 2) rfl (nI_add k 1) (by decide) rfl (fun ls hl => ?_)
              refine lv_goto (tgt := 4) hx hb dM_holds_149 (by decide) ?_
              exact ih n (k + 1, 1) ls (by omega) ⟨by omega, by omega, by rw [← hE, f_M_holds_l_s, if_neg c_9, if_neg c_23, if_neg c_48, if_neg c_73, if_neg c_110, if_neg c_137], by first | exact Or.inl rfl | exact Or.inr rfl | assumption, lv_sub hl [0, 1, 3] rfl⟩
