def lf_0 (P1 P2 P3 P4 : Int32) (σ : rl_M) : Option rl_M := ((wf_room  σ).bind (fun q1 => ((rf_Mo_room  q1.2).bind (fun q2 => ((rf_Mo_thrown  q2.2).bind (fun q3 => (if q3.1 = q1.1 then (if q1.1 = 0 then (if (lg_cmp ((q3.2 78 0).toInt64) q2.1.toInt64) = 0 then some q3.2 else none) else some q3.2) else none)))))))
set_option maxHeartbeats 4000000 in
set_option maxRecDepth 100000 in
theorem lw_0 {p : Program} {l : Launch} {e : Env} {s : State} {m : MethodId} {args : Array Value} {below : List Frame} {meth : Method} {c : Code} {cells slots : Nat} {Q : State → Prop} {E : rl_E} {σ : rl_M} {b0 Ln : Nat} {xs : Nat → Int32} {x4 : Int32} (Γ : CallFix p m c code 7 s args rl_TT nR_La) (hO : rl_Ok E s) (hlq : rl_Lq l) (hX : va_X b0 Ln xs s s.heap) (hbl : b0 < s.heap.size) (hbA : ¬ rl_A E b0) (hv1 : vp_in (x4 + 1) Ln) (hv2 : vp_in (x4 + 2) Ln) (hv3 : vp_in (x4 + 3) Ln) (hv4 : vp_in (x4 + 4) Ln) (hcl : cells + 1 ≤ room_1.cells ∧ slots + 6 ≤ room_1.slots) {τ : rl_M} (h : lf_0 (xs (x4 + 1).toNatClampNeg) (xs (x4 + 2).toNatClampNeg) (xs (x4 + 3).toNatClampNeg) (xs (x4 + 4).toNatClampNeg) σ = some τ) (kk : rl_G p l e room_1 s m args below meth c 7 E (cells + 1) (slots + 6) Q τ 941 [(0, .ref b0), (1, .ref (E.1 0)), (2, .ref (E.1 59)), (3, .ref (E.1 78)), (4, .int x4)] []) : rl_G p l e room_1 s m args below meth c 7 E cells slots Q σ 108 [(0, .ref b0), (1, .ref (E.1 0)), (2, .ref (E.1 59)), (3, .ref (E.1 78)), (4, .int x4)] [] := by
  unfold lf_0 at h
  refine rl_aload_n (pc := 108) Γ nd_law_108 1 rfl ?_
  refine rl_aload_n (pc := 109) Γ nd_law_109 3 rfl ?_
  obtain ⟨q1, q1h, h⟩ := rl_bd h
  refine rl_callW (As := [.ref (E.1 0), .ref (E.1 78)]) (pc := 110) Γ nd_law_110 hO (ww_room l hlq E  σ q1 q1h) 2 nm_law_57 nm_st_La_room nm_ini_La nh_La_room ⟨rfl, rfl⟩ (by decide +kernel) (Nat.le_of_ble_eq_true rfl) (Nat.le_of_ble_eq_true rfl) hcl (Nat.le_of_ble_eq_true rfl) rfl rfl ?_
  refine rl_istore (L' := [(5, .int q1.1), (0, .ref b0), (1, .ref (E.1 0)), (2, .ref (E.1 59)), (3, .ref (E.1 78)), (4, .int x4)]) (pc := 113) Γ nd_law_113 (by decide) rfl ?_
  refine rl_aload_n (pc := 115) Γ nd_law_115 3 rfl ?_
  obtain ⟨q2, q2h, h⟩ := rl_bd h
  refine rl_callVi (As := []) (pc := 116) Γ nd_law_116 hO (rw_Mo_room l E  q1.2 q2 q2h) 0 nm_La_62 nm_im_Mo_room nm_se_Mo_room nm_ini_Mo nh_Mo_room (rl_o59 E) rfl ⟨rfl, rfl⟩ (by decide +kernel) (Nat.le_of_ble_eq_true rfl) (Nat.le_of_ble_eq_true rfl) hcl (Nat.le_of_ble_eq_true rfl) rfl rfl ?_
  refine rl_istore (L' := [(6, .int q2.1), (5, .int q1.1), (0, .ref b0), (1, .ref (E.1 0)), (2, .ref (E.1 59)), (3, .ref (E.1 78)), (4, .int x4)]) (pc := 119) Γ nd_law_119 (by decide) rfl ?_
  refine rl_aload_n (pc := 121) Γ nd_law_121 4 rfl ?_
  obtain ⟨q3, q3h, h⟩ := rl_bd h
  refine rl_callVi (As := []) (pc := 122) Γ nd_law_122 hO (rw_Mo_thrown l E  q2.2 q3 q3h) 0 nm_La_63 nm_im_Mo_thrown nm_se_Mo_thrown nm_ini_Mo nh_Mo_thrown (rl_o59 E) rfl ⟨rfl, rfl⟩ (by decide +kernel) (Nat.le_of_ble_eq_true rfl) (Nat.le_of_ble_eq_true rfl) hcl (Nat.le_of_ble_eq_true rfl) rfl rfl ?_
  refine rl_iload (pc := 125) Γ nd_law_125 1 rfl ?_
  refine rl_icmp_eq (tgt := 132) (pc := 127) Γ nd_law_127 (by decide) (fun q4 => ?_) (fun q4 => ?_)
  · have h := rl_ift q4 h
    refine rl_iload (pc := 132) Γ nd_law_132 1 rfl ?_
    refine rl_if_ne (tgt := 149) (pc := 134) Γ nd_law_134 (by decide) (fun q5 => ?_) (fun q5 => ?_)
    · have h := rl_iff q5 h
      refine rl_goto (tgt := 941) (pc := 149) Γ nd_law_149 (by decide) ?_
      cases h
      exact rl_Gsub [2, 3, 4, 5, 6] rfl kk
    · have h := rl_ift q5 h
      refine rl_aload_n (pc := 137) Γ nd_law_137 5 rfl ?_
      refine rl_iconst (v := 0) (pc := 138) Γ nd_law_138 (by decide) ?_
      refine rl_lld (pc := 139) Γ nd_law_139 hO ?_
      refine rl_iload (pc := 140) Γ nd_law_140 0 rfl ?_
      refine rl_i2l (pc := 142) Γ nd_law_142 ?_
      refine rl_lcmp (pc := 143) Γ nd_law_143 ?_
      refine rl_if_eq (tgt := 149) (pc := 144) Γ nd_law_144 (by decide) (fun q6 => ?_) (fun q6 => ?_)
      · have h := rl_ift q6 h
        refine rl_goto (tgt := 941) (pc := 149) Γ nd_law_149 (by decide) ?_
        cases h
        exact rl_Gsub [2, 3, 4, 5, 6] rfl kk
      · have h := rl_iff q6 h
        exact (rl_ns h).elim
  · have h := rl_iff q4 h
    exact (rl_ns h).elim
def lf_1 (P1 P2 P3 P4 : Int32) (σ : rl_M) : Option rl_M := ((wf_size P1 P2 P3 σ).bind (fun q1 => ((rf_Mo_size P1 P2 P3 q1.2).bind (fun q2 => ((rf_Mo_thrown  q2.2).bind (fun q3 => (if q3.1 = q1.1 then (if q1.1 = 0 then (if (lg_cmp ((q3.2 78 0).toInt64) q2.1.toInt64) = 0 then some q3.2 else none) else some q3.2) else none)))))))
set_option maxHeartbeats 4000000 in
set_option maxRecDepth 100000 in
theorem lw_1 {p : Program} {l : Launch} {e : Env} {s : State} {m : MethodId} {args : Array Value} {below : List Frame} {meth : Method} {c : Code} {cells slots : Nat} {Q : State → Prop} {E : rl_E} {σ : rl_M} {b0 Ln : Nat} {xs : Nat → Int32} {x4 : Int32} (Γ : CallFix p m c code 7 s args rl_TT nR_La) (hO : rl_Ok E s) (hlq : rl_Lq l) (hX : va_X b0 Ln xs s s.heap) (hbl : b0 < s.heap.size) (hbA : ¬ rl_A E b0) (hv1 : vp_in (x4 + 1) Ln) (hv2 : vp_in (x4 + 2) Ln) (hv3 : vp_in (x4 + 3) Ln) (hv4 : vp_in (x4 + 4) Ln) (hcl : cells + 1 ≤ room_1.cells ∧ slots + 6 ≤ room_1.slots) {τ : rl_M} (h : lf_1 (xs (x4 + 1).toNatClampNeg) (xs (x4 + 2).toNatClampNeg) (xs (x4 + 3).toNatClampNeg) (xs (x4 + 4).toNatClampNeg) σ = some τ) (kk : rl_G p l e room_1 s m args below meth c 7 E (cells + 1) (slots + 6) Q τ 941 [(0, .ref b0), (1, .ref (E.1 0)), (2, .ref (E.1 59)), (3, .ref (E.1 78)), (4, .int x4)] []) : rl_G p l e room_1 s m args below meth c 7 E cells slots Q σ 152 [(0, .ref b0), (1, .ref (E.1 0)), (2, .ref (E.1 59)), (3, .ref (E.1 78)), (4, .int x4)] [] := by
  unfold lf_1 at h
  refine rl_aload_n (pc := 152) Γ nd_law_152 1 rfl ?_
  refine rl_aload_n (pc := 153) Γ nd_law_153 0 rfl ?_
  refine rl_iload (pc := 154) Γ nd_law_154 4 rfl ?_
  refine rl_iconst (v := 1) (pc := 156) Γ nd_law_156 (by decide) ?_
  refine rl_iadd (pc := 157) Γ nd_law_157 ?_
  refine rl_sld (pc := 158) Γ nd_law_158 hX hbl hbA hv1 ?_
  refine rl_aload_n (pc := 159) Γ nd_law_159 0 rfl ?_
  refine rl_iload (pc := 160) Γ nd_law_160 4 rfl ?_
  refine rl_iconst (v := 2) (pc := 162) Γ nd_law_162 (by decide) ?_
  refine rl_iadd (pc := 163) Γ nd_law_163 ?_
  refine rl_sld (pc := 164) Γ nd_law_164 hX hbl hbA hv2 ?_
  refine rl_aload_n (pc := 165) Γ nd_law_165 0 rfl ?_
  refine rl_iload (pc := 166) Γ nd_law_166 4 rfl ?_
  refine rl_iconst (v := 3) (pc := 168) Γ nd_law_168 (by decide) ?_
  refine rl_iadd (pc := 169) Γ nd_law_169 ?_
  refine rl_sld (pc := 170) Γ nd_law_170 hX hbl hbA hv3 ?_
  refine rl_aload_n (pc := 171) Γ nd_law_171 3 rfl ?_
  obtain ⟨q1, q1h, h⟩ := rl_bd h
  refine rl_callW (As := [.ref (E.1 0), .int (xs (x4 + 1).toNatClampNeg), .int (xs (x4 + 2).toNatClampNeg), .int (xs (x4 + 3).toNatClampNeg), .ref (E.1 78)]) (pc := 172) Γ nd_law_172 hO (ww_size l hlq E (xs (x4 + 1).toNatClampNeg) (xs (x4 + 2).toNatClampNeg) (xs (x4 + 3).toNatClampNeg) σ q1 q1h) 5 nm_law_66 nm_st_La_size nm_ini_La nh_La_size ⟨rfl, rfl⟩ (by decide +kernel) (Nat.le_of_ble_eq_true rfl) (Nat.le_of_ble_eq_true rfl) hcl (Nat.le_of_ble_eq_true rfl) rfl rfl ?_
  refine rl_istore (L' := [(5, .int q1.1), (0, .ref b0), (1, .ref (E.1 0)), (2, .ref (E.1 59)), (3, .ref (E.1 78)), (4, .int x4)]) (pc := 175) Γ nd_law_175 (by decide) rfl ?_
  refine rl_aload_n (pc := 177) Γ nd_law_177 3 rfl ?_
  refine rl_aload_n (pc := 178) Γ nd_law_178 1 rfl ?_
  refine rl_iload (pc := 179) Γ nd_law_179 5 rfl ?_
  refine rl_iconst (v := 1) (pc := 181) Γ nd_law_181 (by decide) ?_
  refine rl_iadd (pc := 182) Γ nd_law_182 ?_
  refine rl_sld (pc := 183) Γ nd_law_183 hX hbl hbA hv1 ?_
  refine rl_aload_n (pc := 184) Γ nd_law_184 1 rfl ?_
  refine rl_iload (pc := 185) Γ nd_law_185 5 rfl ?_
  refine rl_iconst (v := 2) (pc := 187) Γ nd_law_187 (by decide) ?_
  refine rl_iadd (pc := 188) Γ nd_law_188 ?_
  refine rl_sld (pc := 189) Γ nd_law_189 hX hbl hbA hv2 ?_
  refine rl_aload_n (pc := 190) Γ nd_law_190 1 rfl ?_
  refine rl_iload (pc := 191) Γ nd_law_191 5 rfl ?_
  refine rl_iconst (v := 3) (pc := 193) Γ nd_law_193 (by decide) ?_
  refine rl_iadd (pc := 194) Γ nd_law_194 ?_
  refine rl_sld (pc := 195) Γ nd_law_195 hX hbl hbA hv3 ?_
  obtain ⟨q2, q2h, h⟩ := rl_bd h
  refine rl_callVi (As := [.int (xs (x4 + 1).toNatClampNeg), .int (xs (x4 + 2).toNatClampNeg), .int (xs (x4 + 3).toNatClampNeg)]) (pc := 196) Γ nd_law_196 hO (rw_Mo_size l E (xs (x4 + 1).toNatClampNeg) (xs (x4 + 2).toNatClampNeg) (xs (x4 + 3).toNatClampNeg) q1.2 q2 q2h) 3 nm_La_69 nm_im_Mo_size nm_se_Mo_size nm_ini_Mo nh_Mo_size (rl_o59 E) rfl ⟨rfl, rfl⟩ (by decide +kernel) (Nat.le_of_ble_eq_true rfl) (Nat.le_of_ble_eq_true rfl) hcl (Nat.le_of_ble_eq_true rfl) rfl rfl ?_
  refine rl_istore (L' := [(6, .int q2.1), (5, .int q1.1), (0, .ref b0), (1, .ref (E.1 0)), (2, .ref (E.1 59)), (3, .ref (E.1 78)), (4, .int x4)]) (pc := 199) Γ nd_law_199 (by decide) rfl ?_
  refine rl_aload_n (pc := 201) Γ nd_law_201 4 rfl ?_
  obtain ⟨q3, q3h, h⟩ := rl_bd h
  refine rl_callVi (As := []) (pc := 202) Γ nd_law_202 hO (rw_Mo_thrown l E  q2.2 q3 q3h) 0 nm_La_63 nm_im_Mo_thrown nm_se_Mo_thrown nm_ini_Mo nh_Mo_thrown (rl_o59 E) rfl ⟨rfl, rfl⟩ (by decide +kernel) (Nat.le_of_ble_eq_true rfl) (Nat.le_of_ble_eq_true rfl) hcl (Nat.le_of_ble_eq_true rfl) rfl rfl ?_
  refine rl_iload (pc := 205) Γ nd_law_205 1 rfl ?_
  refine rl_icmp_eq (tgt := 212) (pc := 207) Γ nd_law_207 (by decide) (fun q4 => ?_) (fun q4 => ?_)
  · have h := rl_ift q4 h
    refine rl_iload (pc := 212) Γ nd_law_212 1 rfl ?_
    refine rl_if_ne (tgt := 229) (pc := 214) Γ nd_law_214 (by decide) (fun q5 => ?_) (fun q5 => ?_)
    · have h := rl_iff q5 h
      refine rl_goto (tgt := 941) (pc := 229) Γ nd_law_229 (by decide) ?_
      cases h
      exact rl_Gsub [2, 3, 4, 5, 6] rfl kk
    · have h := rl_ift q5 h
      refine rl_aload_n (pc := 217) Γ nd_law_217 5 rfl ?_
      refine rl_iconst (v := 0) (pc := 218) Γ nd_law_218 (by decide) ?_
      refine rl_lld (pc := 219) Γ nd_law_219 hO ?_
      refine rl_iload (pc := 220) Γ nd_law_220 0 rfl ?_
      refine rl_i2l (pc := 222) Γ nd_law_222 ?_
      refine rl_lcmp (pc := 223) Γ nd_law_223 ?_
      refine rl_if_eq (tgt := 229) (pc := 224) Γ nd_law_224 (by decide) (fun q6 => ?_) (fun q6 => ?_)
      · have h := rl_ift q6 h
        refine rl_goto (tgt := 941) (pc := 229) Γ nd_law_229 (by decide) ?_
        cases h
        exact rl_Gsub [2, 3, 4, 5, 6] rfl kk
      · have h := rl_iff q6 h
        exact (rl_ns h).elim
  · have h := rl_iff q4 h
    exact (rl_ns h).elim
def lf_2 (P1 P2 P3 P4 : Int32) (σ : rl_M) : Option rl_M := ((wf_lot P1 P2 σ).bind (fun q1 => ((rf_Mo_lot P1 P2 q1.2).bind (fun q2 => ((rf_Mo_thrown  q2.2).bind (fun q3 => (if q3.1 = q1.1 then some q3.2 else none)))))))
set_option maxHeartbeats 4000000 in
set_option maxRecDepth 100000 in
theorem lw_2 {p : Program} {l : Launch} {e : Env} {s : State} {m : MethodId} {args : Array Value} {below : List Frame} {meth : Method} {c : Code} {cells slots : Nat} {Q : State → Prop} {E : rl_E} {σ : rl_M} {b0 Ln : Nat} {xs : Nat → Int32} {x4 : Int32} (Γ : CallFix p m c code 7 s args rl_TT nR_La) (hO : rl_Ok E s) (hlq : rl_Lq l) (hX : va_X b0 Ln xs s s.heap) (hbl : b0 < s.heap.size) (hbA : ¬ rl_A E b0) (hv1 : vp_in (x4 + 1) Ln) (hv2 : vp_in (x4 + 2) Ln) (hv3 : vp_in (x4 + 3) Ln) (hv4 : vp_in (x4 + 4) Ln) (hcl : cells + 1 ≤ room_1.cells ∧ slots + 6 ≤ room_1.slots) {τ : rl_M} (h : lf_2 (xs (x4 + 1).toNatClampNeg) (xs (x4 + 2).toNatClampNeg) (xs (x4 + 3).toNatClampNeg) (xs (x4 + 4).toNatClampNeg) σ = some τ) (kk : rl_G p l e room_1 s m args below meth c 7 E (cells + 1) (slots + 6) Q τ 941 [(0, .ref b0), (1, .ref (E.1 0)), (2, .ref (E.1 59)), (3, .ref (E.1 78)), (4, .int x4)] []) : rl_G p l e room_1 s m args below meth c 7 E cells slots Q σ 232 [(0, .ref b0), (1, .ref (E.1 0)), (2, .ref (E.1 59)), (3, .ref (E.1 78)), (4, .int x4)] [] := by
  unfold lf_2 at h
  refine rl_aload_n (pc := 232) Γ nd_law_232 1 rfl ?_
  refine rl_aload_n (pc := 233) Γ nd_law_233 0 rfl ?_
  refine rl_iload (pc := 234) Γ nd_law_234 4 rfl ?_
  refine rl_iconst (v := 1) (pc := 236) Γ nd_law_236 (by decide) ?_
  refine rl_iadd (pc := 237) Γ nd_law_237 ?_
  refine rl_sld (pc := 238) Γ nd_law_238 hX hbl hbA hv1 ?_
  refine rl_aload_n (pc := 239) Γ nd_law_239 0 rfl ?_
  refine rl_iload (pc := 240) Γ nd_law_240 4 rfl ?_
  refine rl_iconst (v := 2) (pc := 242) Γ nd_law_242 (by decide) ?_
  refine rl_iadd (pc := 243) Γ nd_law_243 ?_
  refine rl_sld (pc := 244) Γ nd_law_244 hX hbl hbA hv2 ?_
  obtain ⟨q1, q1h, h⟩ := rl_bd h
  refine rl_callW (As := [.ref (E.1 0), .int (xs (x4 + 1).toNatClampNeg), .int (xs (x4 + 2).toNatClampNeg)]) (pc := 245) Γ nd_law_245 hO (ww_lot l hlq E (xs (x4 + 1).toNatClampNeg) (xs (x4 + 2).toNatClampNeg) σ q1 q1h) 3 nm_law_70 nm_st_La_lot nm_ini_La nh_La_lot ⟨rfl, rfl⟩ (by decide +kernel) (Nat.le_of_ble_eq_true rfl) (Nat.le_of_ble_eq_true rfl) hcl (Nat.le_of_ble_eq_true rfl) rfl rfl ?_
  refine rl_istore (L' := [(5, .int q1.1), (0, .ref b0), (1, .ref (E.1 0)), (2, .ref (E.1 59)), (3, .ref (E.1 78)), (4, .int x4)]) (pc := 248) Γ nd_law_248 (by decide) rfl ?_
  refine rl_aload_n (pc := 250) Γ nd_law_250 3 rfl ?_
  refine rl_aload_n (pc := 251) Γ nd_law_251 1 rfl ?_
  refine rl_iload (pc := 252) Γ nd_law_252 5 rfl ?_
  refine rl_iconst (v := 1) (pc := 254) Γ nd_law_254 (by decide) ?_
  refine rl_iadd (pc := 255) Γ nd_law_255 ?_
  refine rl_sld (pc := 256) Γ nd_law_256 hX hbl hbA hv1 ?_
  refine rl_aload_n (pc := 257) Γ nd_law_257 1 rfl ?_
  refine rl_iload (pc := 258) Γ nd_law_258 5 rfl ?_
  refine rl_iconst (v := 2) (pc := 260) Γ nd_law_260 (by decide) ?_
  refine rl_iadd (pc := 261) Γ nd_law_261 ?_
  refine rl_sld (pc := 262) Γ nd_law_262 hX hbl hbA hv2 ?_
  obtain ⟨q2, q2h, h⟩ := rl_bd h
  refine rl_callVv (As := [.int (xs (x4 + 1).toNatClampNeg), .int (xs (x4 + 2).toNatClampNeg)]) (pc := 263) Γ nd_law_263 hO (rw_Mo_lot l E (xs (x4 + 1).toNatClampNeg) (xs (x4 + 2).toNatClampNeg) q1.2 q2 q2h) 2 nm_La_73 nm_im_Mo_lot nm_se_Mo_lot nm_ini_Mo nh_Mo_lot (rl_o59 E) rfl ⟨rfl, rfl⟩ (by decide +kernel) (Nat.le_of_ble_eq_true rfl) (Nat.le_of_ble_eq_true rfl) hcl (Nat.le_of_ble_eq_true rfl) rfl rfl ?_
  refine rl_aload_n (pc := 266) Γ nd_law_266 3 rfl ?_
  obtain ⟨q3, q3h, h⟩ := rl_bd h
  refine rl_callVi (As := []) (pc := 267) Γ nd_law_267 hO (rw_Mo_thrown l E  q2.2 q3 q3h) 0 nm_La_63 nm_im_Mo_thrown nm_se_Mo_thrown nm_ini_Mo nh_Mo_thrown (rl_o59 E) rfl ⟨rfl, rfl⟩ (by decide +kernel) (Nat.le_of_ble_eq_true rfl) (Nat.le_of_ble_eq_true rfl) hcl (Nat.le_of_ble_eq_true rfl) rfl rfl ?_
  refine rl_iload (pc := 270) Γ nd_law_270 0 rfl ?_
  refine rl_icmp_eq (tgt := 277) (pc := 272) Γ nd_law_272 (by decide) (fun q4 => ?_) (fun q4 => ?_)
  · have h := rl_ift q4 h
    refine rl_goto (tgt := 941) (pc := 277) Γ nd_law_277 (by decide) ?_
    cases h
    exact rl_Gsub [1, 2, 3, 4, 5] rfl kk
  · have h := rl_iff q4 h
    exact (rl_ns h).elim
def lf_3 (P1 P2 P3 P4 : Int32) (σ : rl_M) : Option rl_M := ((rf_Ro_order ((P1.toInt64 <<< ((32 : Int32).toInt64 &&& 63)) ||| (P2.toInt64 &&& 4294967295)) ((P3.toInt64 <<< ((32 : Int32).toInt64 &&& 63)) ||| (P4.toInt64 &&& 4294967295)) σ).bind (fun q1 => ((rf_Mo_order ((P1.toInt64 <<< ((32 : Int32).toInt64 &&& 63)) ||| (P2.toInt64 &&& 4294967295)) ((P3.toInt64 <<< ((32 : Int32).toInt64 &&& 63)) ||| (P4.toInt64 &&& 4294967295)) q1.2).bind (fun q2 => (if q1.1 = q2.1 then some q2.2 else none)))))
set_option maxHeartbeats 4000000 in
set_option maxRecDepth 100000 in
theorem lw_3 {p : Program} {l : Launch} {e : Env} {s : State} {m : MethodId} {args : Array Value} {below : List Frame} {meth : Method} {c : Code} {cells slots : Nat} {Q : State → Prop} {E : rl_E} {σ : rl_M} {b0 Ln : Nat} {xs : Nat → Int32} {x4 : Int32} (Γ : CallFix p m c code 7 s args rl_TT nR_La) (hO : rl_Ok E s) (hlq : rl_Lq l) (hX : va_X b0 Ln xs s s.heap) (hbl : b0 < s.heap.size) (hbA : ¬ rl_A E b0) (hv1 : vp_in (x4 + 1) Ln) (hv2 : vp_in (x4 + 2) Ln) (hv3 : vp_in (x4 + 3) Ln) (hv4 : vp_in (x4 + 4) Ln) (hcl : cells + 1 ≤ room_1.cells ∧ slots + 6 ≤ room_1.slots) {τ : rl_M} (h : lf_3 (xs (x4 + 1).toNatClampNeg) (xs (x4 + 2).toNatClampNeg) (xs (x4 + 3).toNatClampNeg) (xs (x4 + 4).toNatClampNeg) σ = some τ) (kk : rl_G p l e room_1 s m args below meth c 7 E (cells + 1) (slots + 6) Q τ 941 [(0, .ref b0), (1, .ref (E.1 0)), (2, .ref (E.1 59)), (3, .ref (E.1 78)), (4, .int x4)] []) : rl_G p l e room_1 s m args below meth c 7 E cells slots Q σ 280 [(0, .ref b0), (1, .ref (E.1 0)), (2, .ref (E.1 59)), (3, .ref (E.1 78)), (4, .int x4)] [] := by
  unfold lf_3 at h
  refine rl_aload_n (pc := 280) Γ nd_law_280 1 rfl ?_
  refine rl_aload_n (pc := 281) Γ nd_law_281 0 rfl ?_
  refine rl_iload (pc := 282) Γ nd_law_282 4 rfl ?_
  refine rl_iconst (v := 1) (pc := 284) Γ nd_law_284 (by decide) ?_
  refine rl_iadd (pc := 285) Γ nd_law_285 ?_
  refine rl_sld (pc := 286) Γ nd_law_286 hX hbl hbA hv1 ?_
  refine rl_i2l (pc := 287) Γ nd_law_287 ?_
  refine rl_bipush (v := 32) (pc := 288) Γ nd_law_288 (by decide) ?_
  refine rl_lshl (pc := 290) Γ nd_law_290 ?_
  refine rl_aload_n (pc := 291) Γ nd_law_291 0 rfl ?_
  refine rl_iload (pc := 292) Γ nd_law_292 4 rfl ?_
  refine rl_iconst (v := 2) (pc := 294) Γ nd_law_294 (by decide) ?_
  refine rl_iadd (pc := 295) Γ nd_law_295 ?_
  refine rl_sld (pc := 296) Γ nd_law_296 hX hbl hbA hv2 ?_
  refine rl_i2l (pc := 297) Γ nd_law_297 ?_
  refine rl_ldc2 (v := 4294967295) (pc := 298) Γ nd_law_298 nk_La_74 ?_
  refine rl_land (pc := 301) Γ nd_law_301 ?_
  refine rl_lor (pc := 302) Γ nd_law_302 ?_
  refine rl_aload_n (pc := 303) Γ nd_law_303 0 rfl ?_
  refine rl_iload (pc := 304) Γ nd_law_304 4 rfl ?_
  refine rl_iconst (v := 3) (pc := 306) Γ nd_law_306 (by decide) ?_
  refine rl_iadd (pc := 307) Γ nd_law_307 ?_
  refine rl_sld (pc := 308) Γ nd_law_308 hX hbl hbA hv3 ?_
  refine rl_i2l (pc := 309) Γ nd_law_309 ?_
  refine rl_bipush (v := 32) (pc := 310) Γ nd_law_310 (by decide) ?_
  refine rl_lshl (pc := 312) Γ nd_law_312 ?_
  refine rl_aload_n (pc := 313) Γ nd_law_313 0 rfl ?_
  refine rl_iload (pc := 314) Γ nd_law_314 4 rfl ?_
  refine rl_iconst (v := 4) (pc := 316) Γ nd_law_316 (by decide) ?_
  refine rl_iadd (pc := 317) Γ nd_law_317 ?_
  refine rl_sld (pc := 318) Γ nd_law_318 hX hbl hbA hv4 ?_
  refine rl_i2l (pc := 319) Γ nd_law_319 ?_
  refine rl_ldc2 (v := 4294967295) (pc := 320) Γ nd_law_320 nk_La_74 ?_
  refine rl_land (pc := 323) Γ nd_law_323 ?_
  refine rl_lor (pc := 324) Γ nd_law_324 ?_
  obtain ⟨q1, q1h, h⟩ := rl_bd h
  refine rl_callVi (As := [.long (((xs (x4 + 1).toNatClampNeg).toInt64 <<< ((32 : Int32).toInt64 &&& 63)) ||| ((xs (x4 + 2).toNatClampNeg).toInt64 &&& 4294967295)), .long (((xs (x4 + 3).toNatClampNeg).toInt64 <<< ((32 : Int32).toInt64 &&& 63)) ||| ((xs (x4 + 4).toNatClampNeg).toInt64 &&& 4294967295))]) (pc := 325) Γ nd_law_325 hO (rw_Ro_order l E (((xs (x4 + 1).toNatClampNeg).toInt64 <<< ((32 : Int32).toInt64 &&& 63)) ||| ((xs (x4 + 2).toNatClampNeg).toInt64 &&& 4294967295)) (((xs (x4 + 3).toNatClampNeg).toInt64 <<< ((32 : Int32).toInt64 &&& 63)) ||| ((xs (x4 + 4).toNatClampNeg).toInt64 &&& 4294967295)) σ q1 q1h) 2 nm_La_76 nm_im_Ro_order nm_se_Ro_order nm_ini_Ro nh_Ro_order (rl_o0 E) rfl ⟨rfl, rfl⟩ (by decide +kernel) (Nat.le_of_ble_eq_true rfl) (Nat.le_of_ble_eq_true rfl) ⟨Nat.le_of_succ_le hcl.1, Nat.le_trans (Nat.le_add_right _ 6) hcl.2⟩ (Nat.le_of_ble_eq_true rfl) rfl rfl ?_
  refine rl_aload_n (pc := 328) Γ nd_law_328 2 rfl ?_
  refine rl_aload_n (pc := 329) Γ nd_law_329 0 rfl ?_
  refine rl_iload (pc := 330) Γ nd_law_330 4 rfl ?_
  refine rl_iconst (v := 1) (pc := 332) Γ nd_law_332 (by decide) ?_
  refine rl_iadd (pc := 333) Γ nd_law_333 ?_
  refine rl_sld (pc := 334) Γ nd_law_334 hX hbl hbA hv1 ?_
  refine rl_i2l (pc := 335) Γ nd_law_335 ?_
  refine rl_bipush (v := 32) (pc := 336) Γ nd_law_336 (by decide) ?_
  refine rl_lshl (pc := 338) Γ nd_law_338 ?_
  refine rl_aload_n (pc := 339) Γ nd_law_339 0 rfl ?_
  refine rl_iload (pc := 340) Γ nd_law_340 4 rfl ?_
  refine rl_iconst (v := 2) (pc := 342) Γ nd_law_342 (by decide) ?_
  refine rl_iadd (pc := 343) Γ nd_law_343 ?_
  refine rl_sld (pc := 344) Γ nd_law_344 hX hbl hbA hv2 ?_
  refine rl_i2l (pc := 345) Γ nd_law_345 ?_
  refine rl_ldc2 (v := 4294967295) (pc := 346) Γ nd_law_346 nk_La_74 ?_
  refine rl_land (pc := 349) Γ nd_law_349 ?_
  refine rl_lor (pc := 350) Γ nd_law_350 ?_
  refine rl_aload_n (pc := 351) Γ nd_law_351 0 rfl ?_
  refine rl_iload (pc := 352) Γ nd_law_352 4 rfl ?_
  refine rl_iconst (v := 3) (pc := 354) Γ nd_law_354 (by decide) ?_
  refine rl_iadd (pc := 355) Γ nd_law_355 ?_
  refine rl_sld (pc := 356) Γ nd_law_356 hX hbl hbA hv3 ?_
  refine rl_i2l (pc := 357) Γ nd_law_357 ?_
  refine rl_bipush (v := 32) (pc := 358) Γ nd_law_358 (by decide) ?_
  refine rl_lshl (pc := 360) Γ nd_law_360 ?_
  refine rl_aload_n (pc := 361) Γ nd_law_361 0 rfl ?_
  refine rl_iload (pc := 362) Γ nd_law_362 4 rfl ?_
  refine rl_iconst (v := 4) (pc := 364) Γ nd_law_364 (by decide) ?_
  refine rl_iadd (pc := 365) Γ nd_law_365 ?_
  refine rl_sld (pc := 366) Γ nd_law_366 hX hbl hbA hv4 ?_
  refine rl_i2l (pc := 367) Γ nd_law_367 ?_
  refine rl_ldc2 (v := 4294967295) (pc := 368) Γ nd_law_368 nk_La_74 ?_
  refine rl_land (pc := 371) Γ nd_law_371 ?_
  refine rl_lor (pc := 372) Γ nd_law_372 ?_
  obtain ⟨q2, q2h, h⟩ := rl_bd h
  refine rl_callVi (As := [.long (((xs (x4 + 1).toNatClampNeg).toInt64 <<< ((32 : Int32).toInt64 &&& 63)) ||| ((xs (x4 + 2).toNatClampNeg).toInt64 &&& 4294967295)), .long (((xs (x4 + 3).toNatClampNeg).toInt64 <<< ((32 : Int32).toInt64 &&& 63)) ||| ((xs (x4 + 4).toNatClampNeg).toInt64 &&& 4294967295))]) (pc := 373) Γ nd_law_373 hO (rw_Mo_order l E (((xs (x4 + 1).toNatClampNeg).toInt64 <<< ((32 : Int32).toInt64 &&& 63)) ||| ((xs (x4 + 2).toNatClampNeg).toInt64 &&& 4294967295)) (((xs (x4 + 3).toNatClampNeg).toInt64 <<< ((32 : Int32).toInt64 &&& 63)) ||| ((xs (x4 + 4).toNatClampNeg).toInt64 &&& 4294967295)) q1.2 q2 q2h) 2 nm_La_80 nm_im_Mo_order nm_se_Mo_order nm_ini_Mo nh_Mo_order (rl_o59 E) rfl ⟨rfl, rfl⟩ (by decide +kernel) (Nat.le_of_ble_eq_true rfl) (Nat.le_of_ble_eq_true rfl) ⟨Nat.le_of_succ_le hcl.1, Nat.le_trans (Nat.le_add_right _ 6) hcl.2⟩ (Nat.le_of_ble_eq_true rfl) rfl rfl ?_
  refine rl_icmp_eq (tgt := 941) (pc := 376) Γ nd_law_376 (by decide) (fun q3 => ?_) (fun q3 => ?_)
  · have h := rl_ift q3 h
    cases h
    refine rl_widen (Nat.le_add_right _ 1) (Nat.le_add_right _ 6) ?_
    exact rl_Gsub [0, 1, 2, 3, 4] rfl kk
  · have h := rl_iff q3 h
    exact (rl_ns h).elim
def lf_4 (P1 P2 P3 P4 : Int32) (σ : rl_M) : Option rl_M := ((wf_best P1 σ).bind (fun q1 => ((rf_Mo_best P1 q1.2).bind (fun q2 => ((rf_Mo_thrown  q2.2).bind (fun q3 => (if q3.1 = q1.1 then (if q1.1 = 0 then (if (lg_cmp ((q3.2 78 0).toInt64) q2.1.toInt64) = 0 then some q3.2 else none) else some q3.2) else none)))))))
set_option maxHeartbeats 4000000 in
set_option maxRecDepth 100000 in
theorem lw_4 {p : Program} {l : Launch} {e : Env} {s : State} {m : MethodId} {args : Array Value} {below : List Frame} {meth : Method} {c : Code} {cells slots : Nat} {Q : State → Prop} {E : rl_E} {σ : rl_M} {b0 Ln : Nat} {xs : Nat → Int32} {x4 : Int32} (Γ : CallFix p m c code 7 s args rl_TT nR_La) (hO : rl_Ok E s) (hlq : rl_Lq l) (hX : va_X b0 Ln xs s s.heap) (hbl : b0 < s.heap.size) (hbA : ¬ rl_A E b0) (hv1 : vp_in (x4 + 1) Ln) (hv2 : vp_in (x4 + 2) Ln) (hv3 : vp_in (x4 + 3) Ln) (hv4 : vp_in (x4 + 4) Ln) (hcl : cells + 1 ≤ room_1.cells ∧ slots + 6 ≤ room_1.slots) {τ : rl_M} (h : lf_4 (xs (x4 + 1).toNatClampNeg) (xs (x4 + 2).toNatClampNeg) (xs (x4 + 3).toNatClampNeg) (xs (x4 + 4).toNatClampNeg) σ = some τ) (kk : rl_G p l e room_1 s m args below meth c 7 E (cells + 1) (slots + 6) Q τ 941 [(0, .ref b0), (1, .ref (E.1 0)), (2, .ref (E.1 59)), (3, .ref (E.1 78)), (4, .int x4)] []) : rl_G p l e room_1 s m args below meth c 7 E cells slots Q σ 381 [(0, .ref b0), (1, .ref (E.1 0)), (2, .ref (E.1 59)), (3, .ref (E.1 78)), (4, .int x4)] [] := by
  unfold lf_4 at h
  refine rl_aload_n (pc := 381) Γ nd_law_381 1 rfl ?_
  refine rl_aload_n (pc := 382) Γ nd_law_382 0 rfl ?_
  refine rl_iload (pc := 383) Γ nd_law_383 4 rfl ?_
  refine rl_iconst (v := 1) (pc := 385) Γ nd_law_385 (by decide) ?_
  refine rl_iadd (pc := 386) Γ nd_law_386 ?_
  refine rl_sld (pc := 387) Γ nd_law_387 hX hbl hbA hv1 ?_
  refine rl_aload_n (pc := 388) Γ nd_law_388 3 rfl ?_
  obtain ⟨q1, q1h, h⟩ := rl_bd h
  refine rl_callW (As := [.ref (E.1 0), .int (xs (x4 + 1).toNatClampNeg), .ref (E.1 78)]) (pc := 389) Γ nd_law_389 hO (ww_best l hlq E (xs (x4 + 1).toNatClampNeg) σ q1 q1h) 3 nm_law_81 nm_st_La_best nm_ini_La nh_La_best ⟨rfl, rfl⟩ (by decide +kernel) (Nat.le_of_ble_eq_true rfl) (Nat.le_of_ble_eq_true rfl) hcl (Nat.le_of_ble_eq_true rfl) rfl rfl ?_
  refine rl_istore (L' := [(5, .int q1.1), (0, .ref b0), (1, .ref (E.1 0)), (2, .ref (E.1 59)), (3, .ref (E.1 78)), (4, .int x4)]) (pc := 392) Γ nd_law_392 (by decide) rfl ?_
  refine rl_aload_n (pc := 394) Γ nd_law_394 3 rfl ?_
  refine rl_aload_n (pc := 395) Γ nd_law_395 1 rfl ?_
  refine rl_iload (pc := 396) Γ nd_law_396 5 rfl ?_
  refine rl_iconst (v := 1) (pc := 398) Γ nd_law_398 (by decide) ?_
  refine rl_iadd (pc := 399) Γ nd_law_399 ?_
  refine rl_sld (pc := 400) Γ nd_law_400 hX hbl hbA hv1 ?_
  obtain ⟨q2, q2h, h⟩ := rl_bd h
  refine rl_callVi (As := [.int (xs (x4 + 1).toNatClampNeg)]) (pc := 401) Γ nd_law_401 hO (rw_Mo_best l E (xs (x4 + 1).toNatClampNeg) q1.2 q2 q2h) 1 nm_La_84 nm_im_Mo_best nm_se_Mo_best nm_ini_Mo nh_Mo_best (rl_o59 E) rfl ⟨rfl, rfl⟩ (by decide +kernel) (Nat.le_of_ble_eq_true rfl) (Nat.le_of_ble_eq_true rfl) hcl (Nat.le_of_ble_eq_true rfl) rfl rfl ?_
  refine rl_istore (L' := [(6, .int q2.1), (5, .int q1.1), (0, .ref b0), (1, .ref (E.1 0)), (2, .ref (E.1 59)), (3, .ref (E.1 78)), (4, .int x4)]) (pc := 404) Γ nd_law_404 (by decide) rfl ?_
  refine rl_aload_n (pc := 406) Γ nd_law_406 4 rfl ?_
  obtain ⟨q3, q3h, h⟩ := rl_bd h
  refine rl_callVi (As := []) (pc := 407) Γ nd_law_407 hO (rw_Mo_thrown l E  q2.2 q3 q3h) 0 nm_La_63 nm_im_Mo_thrown nm_se_Mo_thrown nm_ini_Mo nh_Mo_thrown (rl_o59 E) rfl ⟨rfl, rfl⟩ (by decide +kernel) (Nat.le_of_ble_eq_true rfl) (Nat.le_of_ble_eq_true rfl) hcl (Nat.le_of_ble_eq_true rfl) rfl rfl ?_
  refine rl_iload (pc := 410) Γ nd_law_410 1 rfl ?_
  refine rl_icmp_eq (tgt := 417) (pc := 412) Γ nd_law_412 (by decide) (fun q4 => ?_) (fun q4 => ?_)
  · have h := rl_ift q4 h
    refine rl_iload (pc := 417) Γ nd_law_417 1 rfl ?_
    refine rl_if_ne (tgt := 434) (pc := 419) Γ nd_law_419 (by decide) (fun q5 => ?_) (fun q5 => ?_)
    · have h := rl_iff q5 h
      refine rl_goto (tgt := 941) (pc := 434) Γ nd_law_434 (by decide) ?_
      cases h
      exact rl_Gsub [2, 3, 4, 5, 6] rfl kk
    · have h := rl_ift q5 h
      refine rl_aload_n (pc := 422) Γ nd_law_422 5 rfl ?_
      refine rl_iconst (v := 0) (pc := 423) Γ nd_law_423 (by decide) ?_
      refine rl_lld (pc := 424) Γ nd_law_424 hO ?_
      refine rl_iload (pc := 425) Γ nd_law_425 0 rfl ?_
      refine rl_i2l (pc := 427) Γ nd_law_427 ?_
      refine rl_lcmp (pc := 428) Γ nd_law_428 ?_
      refine rl_if_eq (tgt := 434) (pc := 429) Γ nd_law_429 (by decide) (fun q6 => ?_) (fun q6 => ?_)
      · have h := rl_ift q6 h
        refine rl_goto (tgt := 941) (pc := 434) Γ nd_law_434 (by decide) ?_
        cases h
        exact rl_Gsub [2, 3, 4, 5, 6] rfl kk
      · have h := rl_iff q6 h
        exact (rl_ns h).elim
  · have h := rl_iff q4 h
    exact (rl_ns h).elim
def lf_5 (P1 P2 P3 P4 : Int32) (σ : rl_M) : Option rl_M := ((wf_place P1 P2 σ).bind (fun q1 => ((rf_Mo_place P1 P2 q1.2).bind (fun q2 => ((rf_Mo_thrown  q2.2).bind (fun q3 => (if q3.1 = q1.1 then (if q1.1 = 0 then (if (lg_cmp ((q3.2 78 0).toInt64) q2.1.toInt64) = 0 then some q3.2 else none) else some q3.2) else none)))))))
set_option maxHeartbeats 4000000 in
set_option maxRecDepth 100000 in
theorem lw_5 {p : Program} {l : Launch} {e : Env} {s : State} {m : MethodId} {args : Array Value} {below : List Frame} {meth : Method} {c : Code} {cells slots : Nat} {Q : State → Prop} {E : rl_E} {σ : rl_M} {b0 Ln : Nat} {xs : Nat → Int32} {x4 : Int32} (Γ : CallFix p m c code 7 s args rl_TT nR_La) (hO : rl_Ok E s) (hlq : rl_Lq l) (hX : va_X b0 Ln xs s s.heap) (hbl : b0 < s.heap.size) (hbA : ¬ rl_A E b0) (hv1 : vp_in (x4 + 1) Ln) (hv2 : vp_in (x4 + 2) Ln) (hv3 : vp_in (x4 + 3) Ln) (hv4 : vp_in (x4 + 4) Ln) (hcl : cells + 1 ≤ room_1.cells ∧ slots + 6 ≤ room_1.slots) {τ : rl_M} (h : lf_5 (xs (x4 + 1).toNatClampNeg) (xs (x4 + 2).toNatClampNeg) (xs (x4 + 3).toNatClampNeg) (xs (x4 + 4).toNatClampNeg) σ = some τ) (kk : rl_G p l e room_1 s m args below meth c 7 E (cells + 1) (slots + 6) Q τ 941 [(0, .ref b0), (1, .ref (E.1 0)), (2, .ref (E.1 59)), (3, .ref (E.1 78)), (4, .int x4)] []) : rl_G p l e room_1 s m args below meth c 7 E cells slots Q σ 437 [(0, .ref b0), (1, .ref (E.1 0)), (2, .ref (E.1 59)), (3, .ref (E.1 78)), (4, .int x4)] [] := by
  unfold lf_5 at h
  refine rl_aload_n (pc := 437) Γ nd_law_437 1 rfl ?_
  refine rl_aload_n (pc := 438) Γ nd_law_438 0 rfl ?_
  refine rl_iload (pc := 439) Γ nd_law_439 4 rfl ?_
  refine rl_iconst (v := 1) (pc := 441) Γ nd_law_441 (by decide) ?_
  refine rl_iadd (pc := 442) Γ nd_law_442 ?_
  refine rl_sld (pc := 443) Γ nd_law_443 hX hbl hbA hv1 ?_
  refine rl_aload_n (pc := 444) Γ nd_law_444 0 rfl ?_
  refine rl_iload (pc := 445) Γ nd_law_445 4 rfl ?_
  refine rl_iconst (v := 2) (pc := 447) Γ nd_law_447 (by decide) ?_
  refine rl_iadd (pc := 448) Γ nd_law_448 ?_
  refine rl_sld (pc := 449) Γ nd_law_449 hX hbl hbA hv2 ?_
  refine rl_aload_n (pc := 450) Γ nd_law_450 3 rfl ?_
  obtain ⟨q1, q1h, h⟩ := rl_bd h
  refine rl_callW (As := [.ref (E.1 0), .int (xs (x4 + 1).toNatClampNeg), .int (xs (x4 + 2).toNatClampNeg), .ref (E.1 78)]) (pc := 451) Γ nd_law_451 hO (ww_place l hlq E (xs (x4 + 1).toNatClampNeg) (xs (x4 + 2).toNatClampNeg) σ q1 q1h) 4 nm_law_85 nm_st_La_place nm_ini_La nh_La_place ⟨rfl, rfl⟩ (by decide +kernel) (Nat.le_of_ble_eq_true rfl) (Nat.le_of_ble_eq_true rfl) hcl (Nat.le_of_ble_eq_true rfl) rfl rfl ?_
  refine rl_istore (L' := [(5, .int q1.1), (0, .ref b0), (1, .ref (E.1 0)), (2, .ref (E.1 59)), (3, .ref (E.1 78)), (4, .int x4)]) (pc := 454) Γ nd_law_454 (by decide) rfl ?_
  refine rl_aload_n (pc := 456) Γ nd_law_456 3 rfl ?_
  refine rl_aload_n (pc := 457) Γ nd_law_457 1 rfl ?_
  refine rl_iload (pc := 458) Γ nd_law_458 5 rfl ?_
  refine rl_iconst (v := 1) (pc := 460) Γ nd_law_460 (by decide) ?_
  refine rl_iadd (pc := 461) Γ nd_law_461 ?_
  refine rl_sld (pc := 462) Γ nd_law_462 hX hbl hbA hv1 ?_
  refine rl_aload_n (pc := 463) Γ nd_law_463 1 rfl ?_
  refine rl_iload (pc := 464) Γ nd_law_464 5 rfl ?_
  refine rl_iconst (v := 2) (pc := 466) Γ nd_law_466 (by decide) ?_
  refine rl_iadd (pc := 467) Γ nd_law_467 ?_
  refine rl_sld (pc := 468) Γ nd_law_468 hX hbl hbA hv2 ?_
  obtain ⟨q2, q2h, h⟩ := rl_bd h
  refine rl_callVi (As := [.int (xs (x4 + 1).toNatClampNeg), .int (xs (x4 + 2).toNatClampNeg)]) (pc := 469) Γ nd_law_469 hO (rw_Mo_place l E (xs (x4 + 1).toNatClampNeg) (xs (x4 + 2).toNatClampNeg) q1.2 q2 q2h) 2 nm_La_88 nm_im_Mo_place nm_se_Mo_place nm_ini_Mo nh_Mo_place (rl_o59 E) rfl ⟨rfl, rfl⟩ (by decide +kernel) (Nat.le_of_ble_eq_true rfl) (Nat.le_of_ble_eq_true rfl) hcl (Nat.le_of_ble_eq_true rfl) rfl rfl ?_
  refine rl_istore (L' := [(6, .int q2.1), (5, .int q1.1), (0, .ref b0), (1, .ref (E.1 0)), (2, .ref (E.1 59)), (3, .ref (E.1 78)), (4, .int x4)]) (pc := 472) Γ nd_law_472 (by decide) rfl ?_
  refine rl_aload_n (pc := 474) Γ nd_law_474 4 rfl ?_
  obtain ⟨q3, q3h, h⟩ := rl_bd h
  refine rl_callVi (As := []) (pc := 475) Γ nd_law_475 hO (rw_Mo_thrown l E  q2.2 q3 q3h) 0 nm_La_63 nm_im_Mo_thrown nm_se_Mo_thrown nm_ini_Mo nh_Mo_thrown (rl_o59 E) rfl ⟨rfl, rfl⟩ (by decide +kernel) (Nat.le_of_ble_eq_true rfl) (Nat.le_of_ble_eq_true rfl) hcl (Nat.le_of_ble_eq_true rfl) rfl rfl ?_
  refine rl_iload (pc := 478) Γ nd_law_478 1 rfl ?_
  refine rl_icmp_eq (tgt := 485) (pc := 480) Γ nd_law_480 (by decide) (fun q4 => ?_) (fun q4 => ?_)
  · have h := rl_ift q4 h
    refine rl_iload (pc := 485) Γ nd_law_485 1 rfl ?_
    refine rl_if_ne (tgt := 502) (pc := 487) Γ nd_law_487 (by decide) (fun q5 => ?_) (fun q5 => ?_)
    · have h := rl_iff q5 h
      refine rl_goto (tgt := 941) (pc := 502) Γ nd_law_502 (by decide) ?_
      cases h
      exact rl_Gsub [2, 3, 4, 5, 6] rfl kk
    · have h := rl_ift q5 h
      refine rl_aload_n (pc := 490) Γ nd_law_490 5 rfl ?_
      refine rl_iconst (v := 0) (pc := 491) Γ nd_law_491 (by decide) ?_
      refine rl_lld (pc := 492) Γ nd_law_492 hO ?_
      refine rl_iload (pc := 493) Γ nd_law_493 0 rfl ?_
      refine rl_i2l (pc := 495) Γ nd_law_495 ?_
      refine rl_lcmp (pc := 496) Γ nd_law_496 ?_
      refine rl_if_eq (tgt := 502) (pc := 497) Γ nd_law_497 (by decide) (fun q6 => ?_) (fun q6 => ?_)
      · have h := rl_ift q6 h
        refine rl_goto (tgt := 941) (pc := 502) Γ nd_law_502 (by decide) ?_
        cases h
        exact rl_Gsub [2, 3, 4, 5, 6] rfl kk
      · have h := rl_iff q6 h
        exact (rl_ns h).elim
  · have h := rl_iff q4 h
    exact (rl_ns h).elim
def lf_6 (P1 P2 P3 P4 : Int32) (σ : rl_M) : Option rl_M := ((wf_outline P1 P2 σ).bind (fun q1 => ((rf_Mo_outline P1 P2 q1.2).bind (fun q2 => ((rf_Mo_thrown  q2.2).bind (fun q3 => (if q3.1 = q1.1 then (if q1.1 = 0 then (if (lg_cmp ((q3.2 78 0).toInt64) q2.1.toInt64) = 0 then some q3.2 else none) else some q3.2) else none)))))))
set_option maxHeartbeats 4000000 in
set_option maxRecDepth 100000 in
theorem lw_6 {p : Program} {l : Launch} {e : Env} {s : State} {m : MethodId} {args : Array Value} {below : List Frame} {meth : Method} {c : Code} {cells slots : Nat} {Q : State → Prop} {E : rl_E} {σ : rl_M} {b0 Ln : Nat} {xs : Nat → Int32} {x4 : Int32} (Γ : CallFix p m c code 7 s args rl_TT nR_La) (hO : rl_Ok E s) (hlq : rl_Lq l) (hX : va_X b0 Ln xs s s.heap) (hbl : b0 < s.heap.size) (hbA : ¬ rl_A E b0) (hv1 : vp_in (x4 + 1) Ln) (hv2 : vp_in (x4 + 2) Ln) (hv3 : vp_in (x4 + 3) Ln) (hv4 : vp_in (x4 + 4) Ln) (hcl : cells + 1 ≤ room_1.cells ∧ slots + 6 ≤ room_1.slots) {τ : rl_M} (h : lf_6 (xs (x4 + 1).toNatClampNeg) (xs (x4 + 2).toNatClampNeg) (xs (x4 + 3).toNatClampNeg) (xs (x4 + 4).toNatClampNeg) σ = some τ) (kk : rl_G p l e room_1 s m args below meth c 7 E (cells + 1) (slots + 6) Q τ 941 [(0, .ref b0), (1, .ref (E.1 0)), (2, .ref (E.1 59)), (3, .ref (E.1 78)), (4, .int x4)] []) : rl_G p l e room_1 s m args below meth c 7 E cells slots Q σ 505 [(0, .ref b0), (1, .ref (E.1 0)), (2, .ref (E.1 59)), (3, .ref (E.1 78)), (4, .int x4)] [] := by
  unfold lf_6 at h
  refine rl_aload_n (pc := 505) Γ nd_law_505 1 rfl ?_
  refine rl_aload_n (pc := 506) Γ nd_law_506 0 rfl ?_
  refine rl_iload (pc := 507) Γ nd_law_507 4 rfl ?_
  refine rl_iconst (v := 1) (pc := 509) Γ nd_law_509 (by decide) ?_
  refine rl_iadd (pc := 510) Γ nd_law_510 ?_
  refine rl_sld (pc := 511) Γ nd_law_511 hX hbl hbA hv1 ?_
  refine rl_aload_n (pc := 512) Γ nd_law_512 0 rfl ?_
  refine rl_iload (pc := 513) Γ nd_law_513 4 rfl ?_
  refine rl_iconst (v := 2) (pc := 515) Γ nd_law_515 (by decide) ?_
  refine rl_iadd (pc := 516) Γ nd_law_516 ?_
  refine rl_sld (pc := 517) Γ nd_law_517 hX hbl hbA hv2 ?_
  refine rl_aload_n (pc := 518) Γ nd_law_518 3 rfl ?_
  obtain ⟨q1, q1h, h⟩ := rl_bd h
  refine rl_callW (As := [.ref (E.1 0), .int (xs (x4 + 1).toNatClampNeg), .int (xs (x4 + 2).toNatClampNeg), .ref (E.1 78)]) (pc := 519) Γ nd_law_519 hO (ww_outline l hlq E (xs (x4 + 1).toNatClampNeg) (xs (x4 + 2).toNatClampNeg) σ q1 q1h) 4 nm_law_89 nm_st_La_outline nm_ini_La nh_La_outline ⟨rfl, rfl⟩ (by decide +kernel) (Nat.le_of_ble_eq_true rfl) (Nat.le_of_ble_eq_true rfl) hcl (Nat.le_of_ble_eq_true rfl) rfl rfl ?_
  refine rl_istore (L' := [(5, .int q1.1), (0, .ref b0), (1, .ref (E.1 0)), (2, .ref (E.1 59)), (3, .ref (E.1 78)), (4, .int x4)]) (pc := 522) Γ nd_law_522 (by decide) rfl ?_
  refine rl_aload_n (pc := 524) Γ nd_law_524 3 rfl ?_
  refine rl_aload_n (pc := 525) Γ nd_law_525 1 rfl ?_
  refine rl_iload (pc := 526) Γ nd_law_526 5 rfl ?_
  refine rl_iconst (v := 1) (pc := 528) Γ nd_law_528 (by decide) ?_
  refine rl_iadd (pc := 529) Γ nd_law_529 ?_
  refine rl_sld (pc := 530) Γ nd_law_530 hX hbl hbA hv1 ?_
  refine rl_aload_n (pc := 531) Γ nd_law_531 1 rfl ?_
  refine rl_iload (pc := 532) Γ nd_law_532 5 rfl ?_
  refine rl_iconst (v := 2) (pc := 534) Γ nd_law_534 (by decide) ?_
  refine rl_iadd (pc := 535) Γ nd_law_535 ?_
  refine rl_sld (pc := 536) Γ nd_law_536 hX hbl hbA hv2 ?_
  obtain ⟨q2, q2h, h⟩ := rl_bd h
  refine rl_callVi (As := [.int (xs (x4 + 1).toNatClampNeg), .int (xs (x4 + 2).toNatClampNeg)]) (pc := 537) Γ nd_law_537 hO (rw_Mo_outline l E (xs (x4 + 1).toNatClampNeg) (xs (x4 + 2).toNatClampNeg) q1.2 q2 q2h) 2 nm_La_91 nm_im_Mo_outline nm_se_Mo_outline nm_ini_Mo nh_Mo_outline (rl_o59 E) rfl ⟨rfl, rfl⟩ (by decide +kernel) (Nat.le_of_ble_eq_true rfl) (Nat.le_of_ble_eq_true rfl) hcl (Nat.le_of_ble_eq_true rfl) rfl rfl ?_
  refine rl_istore (L' := [(6, .int q2.1), (5, .int q1.1), (0, .ref b0), (1, .ref (E.1 0)), (2, .ref (E.1 59)), (3, .ref (E.1 78)), (4, .int x4)]) (pc := 540) Γ nd_law_540 (by decide) rfl ?_
  refine rl_aload_n (pc := 542) Γ nd_law_542 4 rfl ?_
  obtain ⟨q3, q3h, h⟩ := rl_bd h
  refine rl_callVi (As := []) (pc := 543) Γ nd_law_543 hO (rw_Mo_thrown l E  q2.2 q3 q3h) 0 nm_La_63 nm_im_Mo_thrown nm_se_Mo_thrown nm_ini_Mo nh_Mo_thrown (rl_o59 E) rfl ⟨rfl, rfl⟩ (by decide +kernel) (Nat.le_of_ble_eq_true rfl) (Nat.le_of_ble_eq_true rfl) hcl (Nat.le_of_ble_eq_true rfl) rfl rfl ?_
  refine rl_iload (pc := 546) Γ nd_law_546 1 rfl ?_
  refine rl_icmp_eq (tgt := 553) (pc := 548) Γ nd_law_548 (by decide) (fun q4 => ?_) (fun q4 => ?_)
  · have h := rl_ift q4 h
    refine rl_iload (pc := 553) Γ nd_law_553 1 rfl ?_
    refine rl_if_ne (tgt := 570) (pc := 555) Γ nd_law_555 (by decide) (fun q5 => ?_) (fun q5 => ?_)
    · have h := rl_iff q5 h
      refine rl_goto (tgt := 941) (pc := 570) Γ nd_law_570 (by decide) ?_
      cases h
      exact rl_Gsub [2, 3, 4, 5, 6] rfl kk
    · have h := rl_ift q5 h
      refine rl_aload_n (pc := 558) Γ nd_law_558 5 rfl ?_
      refine rl_iconst (v := 0) (pc := 559) Γ nd_law_559 (by decide) ?_
      refine rl_lld (pc := 560) Γ nd_law_560 hO ?_
      refine rl_iload (pc := 561) Γ nd_law_561 0 rfl ?_
      refine rl_i2l (pc := 563) Γ nd_law_563 ?_
      refine rl_lcmp (pc := 564) Γ nd_law_564 ?_
      refine rl_if_eq (tgt := 570) (pc := 565) Γ nd_law_565 (by decide) (fun q6 => ?_) (fun q6 => ?_)
      · have h := rl_ift q6 h
        refine rl_goto (tgt := 941) (pc := 570) Γ nd_law_570 (by decide) ?_
        cases h
        exact rl_Gsub [2, 3, 4, 5, 6] rfl kk
      · have h := rl_iff q6 h
        exact (rl_ns h).elim
  · have h := rl_iff q4 h
    exact (rl_ns h).elim
def lf_7 (P1 P2 P3 P4 : Int32) (σ : rl_M) : Option rl_M := ((wf_wall P1 P2 σ).bind (fun q1 => ((rf_Mo_wall P1 P2 q1.2).bind (fun q2 => ((rf_Mo_thrown  q2.2).bind (fun q3 => (if q3.1 = q1.1 then (if q1.1 = 0 then (if (lg_cmp ((q3.2 78 0).toInt64) q2.1.toInt64) = 0 then some q3.2 else none) else some q3.2) else none)))))))
set_option maxHeartbeats 4000000 in
set_option maxRecDepth 100000 in
theorem lw_7 {p : Program} {l : Launch} {e : Env} {s : State} {m : MethodId} {args : Array Value} {below : List Frame} {meth : Method} {c : Code} {cells slots : Nat} {Q : State → Prop} {E : rl_E} {σ : rl_M} {b0 Ln : Nat} {xs : Nat → Int32} {x4 : Int32} (Γ : CallFix p m c code 7 s args rl_TT nR_La) (hO : rl_Ok E s) (hlq : rl_Lq l) (hX : va_X b0 Ln xs s s.heap) (hbl : b0 < s.heap.size) (hbA : ¬ rl_A E b0) (hv1 : vp_in (x4 + 1) Ln) (hv2 : vp_in (x4 + 2) Ln) (hv3 : vp_in (x4 + 3) Ln) (hv4 : vp_in (x4 + 4) Ln) (hcl : cells + 1 ≤ room_1.cells ∧ slots + 6 ≤ room_1.slots) {τ : rl_M} (h : lf_7 (xs (x4 + 1).toNatClampNeg) (xs (x4 + 2).toNatClampNeg) (xs (x4 + 3).toNatClampNeg) (xs (x4 + 4).toNatClampNeg) σ = some τ) (kk : rl_G p l e room_1 s m args below meth c 7 E (cells + 1) (slots + 6) Q τ 941 [(0, .ref b0), (1, .ref (E.1 0)), (2, .ref (E.1 59)), (3, .ref (E.1 78)), (4, .int x4)] []) : rl_G p l e room_1 s m args below meth c 7 E cells slots Q σ 573 [(0, .ref b0), (1, .ref (E.1 0)), (2, .ref (E.1 59)), (3, .ref (E.1 78)), (4, .int x4)] [] := by
  unfold lf_7 at h
  refine rl_aload_n (pc := 573) Γ nd_law_573 1 rfl ?_
  refine rl_aload_n (pc := 574) Γ nd_law_574 0 rfl ?_
  refine rl_iload (pc := 575) Γ nd_law_575 4 rfl ?_
  refine rl_iconst (v := 1) (pc := 577) Γ nd_law_577 (by decide) ?_
  refine rl_iadd (pc := 578) Γ nd_law_578 ?_
  refine rl_sld (pc := 579) Γ nd_law_579 hX hbl hbA hv1 ?_
  refine rl_aload_n (pc := 580) Γ nd_law_580 0 rfl ?_
  refine rl_iload (pc := 581) Γ nd_law_581 4 rfl ?_
  refine rl_iconst (v := 2) (pc := 583) Γ nd_law_583 (by decide) ?_
  refine rl_iadd (pc := 584) Γ nd_law_584 ?_
  refine rl_sld (pc := 585) Γ nd_law_585 hX hbl hbA hv2 ?_
  refine rl_aload_n (pc := 586) Γ nd_law_586 3 rfl ?_
  obtain ⟨q1, q1h, h⟩ := rl_bd h
  refine rl_callW (As := [.ref (E.1 0), .int (xs (x4 + 1).toNatClampNeg), .int (xs (x4 + 2).toNatClampNeg), .ref (E.1 78)]) (pc := 587) Γ nd_law_587 hO (ww_wall l hlq E (xs (x4 + 1).toNatClampNeg) (xs (x4 + 2).toNatClampNeg) σ q1 q1h) 4 nm_law_92 nm_st_La_wall nm_ini_La nh_La_wall ⟨rfl, rfl⟩ (by decide +kernel) (Nat.le_of_ble_eq_true rfl) (Nat.le_of_ble_eq_true rfl) hcl (Nat.le_of_ble_eq_true rfl) rfl rfl ?_
  refine rl_istore (L' := [(5, .int q1.1), (0, .ref b0), (1, .ref (E.1 0)), (2, .ref (E.1 59)), (3, .ref (E.1 78)), (4, .int x4)]) (pc := 590) Γ nd_law_590 (by decide) rfl ?_
  refine rl_aload_n (pc := 592) Γ nd_law_592 3 rfl ?_
  refine rl_aload_n (pc := 593) Γ nd_law_593 1 rfl ?_
  refine rl_iload (pc := 594) Γ nd_law_594 5 rfl ?_
  refine rl_iconst (v := 1) (pc := 596) Γ nd_law_596 (by decide) ?_
  refine rl_iadd (pc := 597) Γ nd_law_597 ?_
  refine rl_sld (pc := 598) Γ nd_law_598 hX hbl hbA hv1 ?_
  refine rl_aload_n (pc := 599) Γ nd_law_599 1 rfl ?_
  refine rl_iload (pc := 600) Γ nd_law_600 5 rfl ?_
  refine rl_iconst (v := 2) (pc := 602) Γ nd_law_602 (by decide) ?_
  refine rl_iadd (pc := 603) Γ nd_law_603 ?_
  refine rl_sld (pc := 604) Γ nd_law_604 hX hbl hbA hv2 ?_
  obtain ⟨q2, q2h, h⟩ := rl_bd h
  refine rl_callVi (As := [.int (xs (x4 + 1).toNatClampNeg), .int (xs (x4 + 2).toNatClampNeg)]) (pc := 605) Γ nd_law_605 hO (rw_Mo_wall l E (xs (x4 + 1).toNatClampNeg) (xs (x4 + 2).toNatClampNeg) q1.2 q2 q2h) 2 nm_La_94 nm_im_Mo_wall nm_se_Mo_wall nm_ini_Mo nh_Mo_wall (rl_o59 E) rfl ⟨rfl, rfl⟩ (by decide +kernel) (Nat.le_of_ble_eq_true rfl) (Nat.le_of_ble_eq_true rfl) hcl (Nat.le_of_ble_eq_true rfl) rfl rfl ?_
  refine rl_istore (L' := [(6, .int q2.1), (5, .int q1.1), (0, .ref b0), (1, .ref (E.1 0)), (2, .ref (E.1 59)), (3, .ref (E.1 78)), (4, .int x4)]) (pc := 608) Γ nd_law_608 (by decide) rfl ?_
  refine rl_aload_n (pc := 610) Γ nd_law_610 4 rfl ?_
  obtain ⟨q3, q3h, h⟩ := rl_bd h
  refine rl_callVi (As := []) (pc := 611) Γ nd_law_611 hO (rw_Mo_thrown l E  q2.2 q3 q3h) 0 nm_La_63 nm_im_Mo_thrown nm_se_Mo_thrown nm_ini_Mo nh_Mo_thrown (rl_o59 E) rfl ⟨rfl, rfl⟩ (by decide +kernel) (Nat.le_of_ble_eq_true rfl) (Nat.le_of_ble_eq_true rfl) hcl (Nat.le_of_ble_eq_true rfl) rfl rfl ?_
  refine rl_iload (pc := 614) Γ nd_law_614 1 rfl ?_
  refine rl_icmp_eq (tgt := 621) (pc := 616) Γ nd_law_616 (by decide) (fun q4 => ?_) (fun q4 => ?_)
  · have h := rl_ift q4 h
    refine rl_iload (pc := 621) Γ nd_law_621 1 rfl ?_
    refine rl_if_ne (tgt := 638) (pc := 623) Γ nd_law_623 (by decide) (fun q5 => ?_) (fun q5 => ?_)
    · have h := rl_iff q5 h
      refine rl_goto (tgt := 941) (pc := 638) Γ nd_law_638 (by decide) ?_
      cases h
      exact rl_Gsub [2, 3, 4, 5, 6] rfl kk
    · have h := rl_ift q5 h
      refine rl_aload_n (pc := 626) Γ nd_law_626 5 rfl ?_
      refine rl_iconst (v := 0) (pc := 627) Γ nd_law_627 (by decide) ?_
      refine rl_lld (pc := 628) Γ nd_law_628 hO ?_
      refine rl_iload (pc := 629) Γ nd_law_629 0 rfl ?_
      refine rl_i2l (pc := 631) Γ nd_law_631 ?_
      refine rl_lcmp (pc := 632) Γ nd_law_632 ?_
      refine rl_if_eq (tgt := 638) (pc := 633) Γ nd_law_633 (by decide) (fun q6 => ?_) (fun q6 => ?_)
      · have h := rl_ift q6 h
        refine rl_goto (tgt := 941) (pc := 638) Γ nd_law_638 (by decide) ?_
        cases h
        exact rl_Gsub [2, 3, 4, 5, 6] rfl kk
      · have h := rl_iff q6 h
        exact (rl_ns h).elim
  · have h := rl_iff q4 h
    exact (rl_ns h).elim
def lf_8 (P1 P2 P3 P4 : Int32) (σ : rl_M) : Option rl_M := ((wf_wish P1 P2 P3 σ).bind (fun q1 => ((rf_Mo_wish P1 P2 P3 q1.2).bind (fun q2 => ((rf_Mo_thrown  q2.2).bind (fun q3 => (if q3.1 = q1.1 then (if q1.1 = 0 then (if (lg_cmp ((q3.2 78 0).toInt64) q2.1.toInt64) = 0 then some q3.2 else none) else some q3.2) else none)))))))
set_option maxHeartbeats 4000000 in
set_option maxRecDepth 100000 in
theorem lw_8 {p : Program} {l : Launch} {e : Env} {s : State} {m : MethodId} {args : Array Value} {below : List Frame} {meth : Method} {c : Code} {cells slots : Nat} {Q : State → Prop} {E : rl_E} {σ : rl_M} {b0 Ln : Nat} {xs : Nat → Int32} {x4 : Int32} (Γ : CallFix p m c code 7 s args rl_TT nR_La) (hO : rl_Ok E s) (hlq : rl_Lq l) (hX : va_X b0 Ln xs s s.heap) (hbl : b0 < s.heap.size) (hbA : ¬ rl_A E b0) (hv1 : vp_in (x4 + 1) Ln) (hv2 : vp_in (x4 + 2) Ln) (hv3 : vp_in (x4 + 3) Ln) (hv4 : vp_in (x4 + 4) Ln) (hcl : cells + 1 ≤ room_1.cells ∧ slots + 6 ≤ room_1.slots) {τ : rl_M} (h : lf_8 (xs (x4 + 1).toNatClampNeg) (xs (x4 + 2).toNatClampNeg) (xs (x4 + 3).toNatClampNeg) (xs (x4 + 4).toNatClampNeg) σ = some τ) (kk : rl_G p l e room_1 s m args below meth c 7 E (cells + 1) (slots + 6) Q τ 941 [(0, .ref b0), (1, .ref (E.1 0)), (2, .ref (E.1 59)), (3, .ref (E.1 78)), (4, .int x4)] []) : rl_G p l e room_1 s m args below meth c 7 E cells slots Q σ 641 [(0, .ref b0), (1, .ref (E.1 0)), (2, .ref (E.1 59)), (3, .ref (E.1 78)), (4, .int x4)] [] := by
  unfold lf_8 at h
  refine rl_aload_n (pc := 641) Γ nd_law_641 1 rfl ?_
  refine rl_aload_n (pc := 642) Γ nd_law_642 0 rfl ?_
  refine rl_iload (pc := 643) Γ nd_law_643 4 rfl ?_
  refine rl_iconst (v := 1) (pc := 645) Γ nd_law_645 (by decide) ?_
  refine rl_iadd (pc := 646) Γ nd_law_646 ?_
  refine rl_sld (pc := 647) Γ nd_law_647 hX hbl hbA hv1 ?_
  refine rl_aload_n (pc := 648) Γ nd_law_648 0 rfl ?_
  refine rl_iload (pc := 649) Γ nd_law_649 4 rfl ?_
  refine rl_iconst (v := 2) (pc := 651) Γ nd_law_651 (by decide) ?_
  refine rl_iadd (pc := 652) Γ nd_law_652 ?_
  refine rl_sld (pc := 653) Γ nd_law_653 hX hbl hbA hv2 ?_
  refine rl_aload_n (pc := 654) Γ nd_law_654 0 rfl ?_
  refine rl_iload (pc := 655) Γ nd_law_655 4 rfl ?_
  refine rl_iconst (v := 3) (pc := 657) Γ nd_law_657 (by decide) ?_
  refine rl_iadd (pc := 658) Γ nd_law_658 ?_
  refine rl_sld (pc := 659) Γ nd_law_659 hX hbl hbA hv3 ?_
  refine rl_aload_n (pc := 660) Γ nd_law_660 3 rfl ?_
  obtain ⟨q1, q1h, h⟩ := rl_bd h
  refine rl_callW (As := [.ref (E.1 0), .int (xs (x4 + 1).toNatClampNeg), .int (xs (x4 + 2).toNatClampNeg), .int (xs (x4 + 3).toNatClampNeg), .ref (E.1 78)]) (pc := 661) Γ nd_law_661 hO (ww_wish l hlq E (xs (x4 + 1).toNatClampNeg) (xs (x4 + 2).toNatClampNeg) (xs (x4 + 3).toNatClampNeg) σ q1 q1h) 5 nm_law_95 nm_st_La_wish nm_ini_La nh_La_wish ⟨rfl, rfl⟩ (by decide +kernel) (Nat.le_of_ble_eq_true rfl) (Nat.le_of_ble_eq_true rfl) hcl (Nat.le_of_ble_eq_true rfl) rfl rfl ?_
  refine rl_istore (L' := [(5, .int q1.1), (0, .ref b0), (1, .ref (E.1 0)), (2, .ref (E.1 59)), (3, .ref (E.1 78)), (4, .int x4)]) (pc := 664) Γ nd_law_664 (by decide) rfl ?_
  refine rl_aload_n (pc := 666) Γ nd_law_666 3 rfl ?_
  refine rl_aload_n (pc := 667) Γ nd_law_667 1 rfl ?_
  refine rl_iload (pc := 668) Γ nd_law_668 5 rfl ?_
  refine rl_iconst (v := 1) (pc := 670) Γ nd_law_670 (by decide) ?_
  refine rl_iadd (pc := 671) Γ nd_law_671 ?_
  refine rl_sld (pc := 672) Γ nd_law_672 hX hbl hbA hv1 ?_
  refine rl_aload_n (pc := 673) Γ nd_law_673 1 rfl ?_
  refine rl_iload (pc := 674) Γ nd_law_674 5 rfl ?_
  refine rl_iconst (v := 2) (pc := 676) Γ nd_law_676 (by decide) ?_
  refine rl_iadd (pc := 677) Γ nd_law_677 ?_
  refine rl_sld (pc := 678) Γ nd_law_678 hX hbl hbA hv2 ?_
  refine rl_aload_n (pc := 679) Γ nd_law_679 1 rfl ?_
  refine rl_iload (pc := 680) Γ nd_law_680 5 rfl ?_
  refine rl_iconst (v := 3) (pc := 682) Γ nd_law_682 (by decide) ?_
  refine rl_iadd (pc := 683) Γ nd_law_683 ?_
  refine rl_sld (pc := 684) Γ nd_law_684 hX hbl hbA hv3 ?_
  obtain ⟨q2, q2h, h⟩ := rl_bd h
  refine rl_callVi (As := [.int (xs (x4 + 1).toNatClampNeg), .int (xs (x4 + 2).toNatClampNeg), .int (xs (x4 + 3).toNatClampNeg)]) (pc := 685) Γ nd_law_685 hO (rw_Mo_wish l E (xs (x4 + 1).toNatClampNeg) (xs (x4 + 2).toNatClampNeg) (xs (x4 + 3).toNatClampNeg) q1.2 q2 q2h) 3 nm_La_97 nm_im_Mo_wish nm_se_Mo_wish nm_ini_Mo nh_Mo_wish (rl_o59 E) rfl ⟨rfl, rfl⟩ (by decide +kernel) (Nat.le_of_ble_eq_true rfl) (Nat.le_of_ble_eq_true rfl) hcl (Nat.le_of_ble_eq_true rfl) rfl rfl ?_
  refine rl_istore (L' := [(6, .int q2.1), (5, .int q1.1), (0, .ref b0), (1, .ref (E.1 0)), (2, .ref (E.1 59)), (3, .ref (E.1 78)), (4, .int x4)]) (pc := 688) Γ nd_law_688 (by decide) rfl ?_
  refine rl_aload_n (pc := 690) Γ nd_law_690 4 rfl ?_
  obtain ⟨q3, q3h, h⟩ := rl_bd h
  refine rl_callVi (As := []) (pc := 691) Γ nd_law_691 hO (rw_Mo_thrown l E  q2.2 q3 q3h) 0 nm_La_63 nm_im_Mo_thrown nm_se_Mo_thrown nm_ini_Mo nh_Mo_thrown (rl_o59 E) rfl ⟨rfl, rfl⟩ (by decide +kernel) (Nat.le_of_ble_eq_true rfl) (Nat.le_of_ble_eq_true rfl) hcl (Nat.le_of_ble_eq_true rfl) rfl rfl ?_
  refine rl_iload (pc := 694) Γ nd_law_694 1 rfl ?_
  refine rl_icmp_eq (tgt := 701) (pc := 696) Γ nd_law_696 (by decide) (fun q4 => ?_) (fun q4 => ?_)
  · have h := rl_ift q4 h
    refine rl_iload (pc := 701) Γ nd_law_701 1 rfl ?_
    refine rl_if_ne (tgt := 718) (pc := 703) Γ nd_law_703 (by decide) (fun q5 => ?_) (fun q5 => ?_)
    · have h := rl_iff q5 h
      refine rl_goto (tgt := 941) (pc := 718) Γ nd_law_718 (by decide) ?_
      cases h
      exact rl_Gsub [2, 3, 4, 5, 6] rfl kk
    · have h := rl_ift q5 h
      refine rl_aload_n (pc := 706) Γ nd_law_706 5 rfl ?_
      refine rl_iconst (v := 0) (pc := 707) Γ nd_law_707 (by decide) ?_
      refine rl_lld (pc := 708) Γ nd_law_708 hO ?_
      refine rl_iload (pc := 709) Γ nd_law_709 0 rfl ?_
      refine rl_i2l (pc := 711) Γ nd_law_711 ?_
      refine rl_lcmp (pc := 712) Γ nd_law_712 ?_
      refine rl_if_eq (tgt := 718) (pc := 713) Γ nd_law_713 (by decide) (fun q6 => ?_) (fun q6 => ?_)
      · have h := rl_ift q6 h
        refine rl_goto (tgt := 941) (pc := 718) Γ nd_law_718 (by decide) ?_
        cases h
        exact rl_Gsub [2, 3, 4, 5, 6] rfl kk
      · have h := rl_iff q6 h
        exact (rl_ns h).elim
  · have h := rl_iff q4 h
    exact (rl_ns h).elim
def lf_9 (P1 P2 P3 P4 : Int32) (σ : rl_M) : Option rl_M := ((wf_met P1 σ).bind (fun q1 => ((rf_Mo_met0 P1 q1.2).bind (fun q2 => ((rf_Mo_thrown  q2.2).bind (fun q3 => (if q3.1 = q1.1 then (if q1.1 = 0 then (if q2.1 = 0 then (if (lg_cmp ((q3.2 78 0).toInt64) 0) = 0 then some q3.2 else none) else (if (lg_cmp ((q3.2 78 0).toInt64) 1) = 0 then some q3.2 else none)) else some q3.2) else none)))))))
set_option maxHeartbeats 4000000 in
set_option maxRecDepth 100000 in
theorem lw_9 {p : Program} {l : Launch} {e : Env} {s : State} {m : MethodId} {args : Array Value} {below : List Frame} {meth : Method} {c : Code} {cells slots : Nat} {Q : State → Prop} {E : rl_E} {σ : rl_M} {b0 Ln : Nat} {xs : Nat → Int32} {x4 : Int32} (Γ : CallFix p m c code 7 s args rl_TT nR_La) (hO : rl_Ok E s) (hlq : rl_Lq l) (hX : va_X b0 Ln xs s s.heap) (hbl : b0 < s.heap.size) (hbA : ¬ rl_A E b0) (hv1 : vp_in (x4 + 1) Ln) (hv2 : vp_in (x4 + 2) Ln) (hv3 : vp_in (x4 + 3) Ln) (hv4 : vp_in (x4 + 4) Ln) (hcl : cells + 1 ≤ room_1.cells ∧ slots + 6 ≤ room_1.slots) {τ : rl_M} (h : lf_9 (xs (x4 + 1).toNatClampNeg) (xs (x4 + 2).toNatClampNeg) (xs (x4 + 3).toNatClampNeg) (xs (x4 + 4).toNatClampNeg) σ = some τ) (kk : rl_G p l e room_1 s m args below meth c 7 E (cells + 1) (slots + 6) Q τ 941 [(0, .ref b0), (1, .ref (E.1 0)), (2, .ref (E.1 59)), (3, .ref (E.1 78)), (4, .int x4)] []) : rl_G p l e room_1 s m args below meth c 7 E cells slots Q σ 721 [(0, .ref b0), (1, .ref (E.1 0)), (2, .ref (E.1 59)), (3, .ref (E.1 78)), (4, .int x4)] [] := by
  unfold lf_9 at h
  refine rl_aload_n (pc := 721) Γ nd_law_721 1 rfl ?_
  refine rl_aload_n (pc := 722) Γ nd_law_722 0 rfl ?_
  refine rl_iload (pc := 723) Γ nd_law_723 4 rfl ?_
  refine rl_iconst (v := 1) (pc := 725) Γ nd_law_725 (by decide) ?_
  refine rl_iadd (pc := 726) Γ nd_law_726 ?_
  refine rl_sld (pc := 727) Γ nd_law_727 hX hbl hbA hv1 ?_
  refine rl_aload_n (pc := 728) Γ nd_law_728 3 rfl ?_
  obtain ⟨q1, q1h, h⟩ := rl_bd h
  refine rl_callW (As := [.ref (E.1 0), .int (xs (x4 + 1).toNatClampNeg), .ref (E.1 78)]) (pc := 729) Γ nd_law_729 hO (ww_met l hlq E (xs (x4 + 1).toNatClampNeg) σ q1 q1h) 3 nm_law_98 nm_st_La_met nm_ini_La nh_La_met ⟨rfl, rfl⟩ (by decide +kernel) (Nat.le_of_ble_eq_true rfl) (Nat.le_of_ble_eq_true rfl) hcl (Nat.le_of_ble_eq_true rfl) rfl rfl ?_
  refine rl_istore (L' := [(5, .int q1.1), (0, .ref b0), (1, .ref (E.1 0)), (2, .ref (E.1 59)), (3, .ref (E.1 78)), (4, .int x4)]) (pc := 732) Γ nd_law_732 (by decide) rfl ?_
  refine rl_aload_n (pc := 734) Γ nd_law_734 3 rfl ?_
  refine rl_aload_n (pc := 735) Γ nd_law_735 1 rfl ?_
  refine rl_iload (pc := 736) Γ nd_law_736 5 rfl ?_
  refine rl_iconst (v := 1) (pc := 738) Γ nd_law_738 (by decide) ?_
  refine rl_iadd (pc := 739) Γ nd_law_739 ?_
  refine rl_sld (pc := 740) Γ nd_law_740 hX hbl hbA hv1 ?_
  obtain ⟨q2, q2h, h⟩ := rl_bd h
  refine rl_callVi (As := [.int (xs (x4 + 1).toNatClampNeg)]) (pc := 741) Γ nd_law_741 hO (rw_Mo_met0 l E (xs (x4 + 1).toNatClampNeg) q1.2 q2 q2h) 1 nm_La_100 nm_im_Mo_met0 nm_se_Mo_met0 nm_ini_Mo nh_Mo_met0 (rl_o59 E) rfl ⟨rfl, rfl⟩ (by decide +kernel) (Nat.le_of_ble_eq_true rfl) (Nat.le_of_ble_eq_true rfl) hcl (Nat.le_of_ble_eq_true rfl) rfl rfl ?_
  refine rl_istore (L' := [(6, .int q2.1), (5, .int q1.1), (0, .ref b0), (1, .ref (E.1 0)), (2, .ref (E.1 59)), (3, .ref (E.1 78)), (4, .int x4)]) (pc := 744) Γ nd_law_744 (by decide) rfl ?_
  refine rl_aload_n (pc := 746) Γ nd_law_746 4 rfl ?_
  obtain ⟨q3, q3h, h⟩ := rl_bd h
  refine rl_callVi (As := []) (pc := 747) Γ nd_law_747 hO (rw_Mo_thrown l E  q2.2 q3 q3h) 0 nm_La_63 nm_im_Mo_thrown nm_se_Mo_thrown nm_ini_Mo nh_Mo_thrown (rl_o59 E) rfl ⟨rfl, rfl⟩ (by decide +kernel) (Nat.le_of_ble_eq_true rfl) (Nat.le_of_ble_eq_true rfl) hcl (Nat.le_of_ble_eq_true rfl) rfl rfl ?_
  refine rl_iload (pc := 750) Γ nd_law_750 1 rfl ?_
  refine rl_icmp_eq (tgt := 757) (pc := 752) Γ nd_law_752 (by decide) (fun q4 => ?_) (fun q4 => ?_)
  · have h := rl_ift q4 h
    refine rl_iload (pc := 757) Γ nd_law_757 1 rfl ?_
    refine rl_if_ne (tgt := 781) (pc := 759) Γ nd_law_759 (by decide) (fun q5 => ?_) (fun q5 => ?_)
    · have h := rl_iff q5 h
      refine rl_goto (tgt := 941) (pc := 781) Γ nd_law_781 (by decide) ?_
      cases h
      exact rl_Gsub [2, 3, 4, 5, 6] rfl kk
    · have h := rl_ift q5 h
      refine rl_aload_n (pc := 762) Γ nd_law_762 5 rfl ?_
      refine rl_iconst (v := 0) (pc := 763) Γ nd_law_763 (by decide) ?_
      refine rl_lld (pc := 764) Γ nd_law_764 hO ?_
      refine rl_iload (pc := 765) Γ nd_law_765 0 rfl ?_
      refine rl_if_eq (tgt := 774) (pc := 767) Γ nd_law_767 (by decide) (fun q6 => ?_) (fun q6 => ?_)
      · have h := rl_ift q6 h
        refine rl_lconst (v := 0) (pc := 774) Γ nd_law_774 (by decide) ?_
        refine rl_lcmp (pc := 775) Γ nd_law_775 ?_
        refine rl_if_eq (tgt := 781) (pc := 776) Γ nd_law_776 (by decide) (fun q7 => ?_) (fun q7 => ?_)
        · have h := rl_ift q7 h
          refine rl_goto (tgt := 941) (pc := 781) Γ nd_law_781 (by decide) ?_
          cases h
          exact rl_Gsub [2, 3, 4, 5, 6] rfl kk
        · have h := rl_iff q7 h
          exact (rl_ns h).elim
      · have h := rl_iff q6 h
        refine rl_lconst (v := 1) (pc := 770) Γ nd_law_770 (by decide) ?_
        refine rl_goto (tgt := 775) (pc := 771) Γ nd_law_771 (by decide) ?_
        refine rl_lcmp (pc := 775) Γ nd_law_775 ?_
        refine rl_if_eq (tgt := 781) (pc := 776) Γ nd_law_776 (by decide) (fun q8 => ?_) (fun q8 => ?_)
        · have h := rl_ift q8 h
          refine rl_goto (tgt := 941) (pc := 781) Γ nd_law_781 (by decide) ?_
          cases h
          exact rl_Gsub [2, 3, 4, 5, 6] rfl kk
        · have h := rl_iff q8 h
          exact (rl_ns h).elim
  · have h := rl_iff q4 h
    exact (rl_ns h).elim
def lf_10 (P1 P2 P3 P4 : Int32) (σ : rl_M) : Option rl_M := ((rf_Ro_met1  σ).bind (fun q1 => ((rf_Mo_met1  q1.2).bind (fun q2 => (if q1.1 = q2.1 then some q2.2 else none)))))
set_option maxHeartbeats 4000000 in
set_option maxRecDepth 100000 in
theorem lw_10 {p : Program} {l : Launch} {e : Env} {s : State} {m : MethodId} {args : Array Value} {below : List Frame} {meth : Method} {c : Code} {cells slots : Nat} {Q : State → Prop} {E : rl_E} {σ : rl_M} {b0 Ln : Nat} {xs : Nat → Int32} {x4 : Int32} (Γ : CallFix p m c code 7 s args rl_TT nR_La) (hO : rl_Ok E s) (hlq : rl_Lq l) (hX : va_X b0 Ln xs s s.heap) (hbl : b0 < s.heap.size) (hbA : ¬ rl_A E b0) (hv1 : vp_in (x4 + 1) Ln) (hv2 : vp_in (x4 + 2) Ln) (hv3 : vp_in (x4 + 3) Ln) (hv4 : vp_in (x4 + 4) Ln) (hcl : cells + 1 ≤ room_1.cells ∧ slots + 6 ≤ room_1.slots) {τ : rl_M} (h : lf_10 (xs (x4 + 1).toNatClampNeg) (xs (x4 + 2).toNatClampNeg) (xs (x4 + 3).toNatClampNeg) (xs (x4 + 4).toNatClampNeg) σ = some τ) (kk : rl_G p l e room_1 s m args below meth c 7 E (cells + 1) (slots + 6) Q τ 941 [(0, .ref b0), (1, .ref (E.1 0)), (2, .ref (E.1 59)), (3, .ref (E.1 78)), (4, .int x4)] []) : rl_G p l e room_1 s m args below meth c 7 E cells slots Q σ 784 [(0, .ref b0), (1, .ref (E.1 0)), (2, .ref (E.1 59)), (3, .ref (E.1 78)), (4, .int x4)] [] := by
  unfold lf_10 at h
  refine rl_aload_n (pc := 784) Γ nd_law_784 1 rfl ?_
  obtain ⟨q1, q1h, h⟩ := rl_bd h
  refine rl_callVi (As := []) (pc := 785) Γ nd_law_785 hO (rw_Ro_met1 l E  σ q1 q1h) 0 nm_La_101 nm_im_Ro_met1 nm_se_Ro_met1 nm_ini_Ro nh_Ro_met1 (rl_o0 E) rfl ⟨rfl, rfl⟩ (by decide +kernel) (Nat.le_of_ble_eq_true rfl) (Nat.le_of_ble_eq_true rfl) ⟨Nat.le_of_succ_le hcl.1, Nat.le_trans (Nat.le_add_right _ 6) hcl.2⟩ (Nat.le_of_ble_eq_true rfl) rfl rfl ?_
  refine rl_aload_n (pc := 788) Γ nd_law_788 2 rfl ?_
  obtain ⟨q2, q2h, h⟩ := rl_bd h
  refine rl_callVi (As := []) (pc := 789) Γ nd_law_789 hO (rw_Mo_met1 l E  q1.2 q2 q2h) 0 nm_La_103 nm_im_Mo_met1 nm_se_Mo_met1 nm_ini_Mo nh_Mo_met1 (rl_o59 E) rfl ⟨rfl, rfl⟩ (by decide +kernel) (Nat.le_of_ble_eq_true rfl) (Nat.le_of_ble_eq_true rfl) ⟨Nat.le_of_succ_le hcl.1, Nat.le_trans (Nat.le_add_right _ 6) hcl.2⟩ (Nat.le_of_ble_eq_true rfl) rfl rfl ?_
  refine rl_icmp_eq (tgt := 941) (pc := 792) Γ nd_law_792 (by decide) (fun q3 => ?_) (fun q3 => ?_)
  · have h := rl_ift q3 h
    cases h
    refine rl_widen (Nat.le_add_right _ 1) (Nat.le_add_right _ 6) ?_
    exact rl_Gsub [0, 1, 2, 3, 4] rfl kk
  · have h := rl_iff q3 h
    exact (rl_ns h).elim
def lf_11 (P1 P2 P3 P4 : Int32) (σ : rl_M) : Option rl_M := ((wf_swap P1 P2 σ).bind (fun q1 => ((rf_Mo_swap P1 P2 q1.2).bind (fun q2 => ((rf_Mo_thrown  q2.2).bind (fun q3 => (if q3.1 = q1.1 then (if q1.1 = 0 then (if q2.1 = 0 then (if (lg_cmp ((q3.2 78 0).toInt64) 0) = 0 then some q3.2 else none) else (if (lg_cmp ((q3.2 78 0).toInt64) 1) = 0 then some q3.2 else none)) else some q3.2) else none)))))))
set_option maxHeartbeats 4000000 in
set_option maxRecDepth 100000 in
theorem lw_11 {p : Program} {l : Launch} {e : Env} {s : State} {m : MethodId} {args : Array Value} {below : List Frame} {meth : Method} {c : Code} {cells slots : Nat} {Q : State → Prop} {E : rl_E} {σ : rl_M} {b0 Ln : Nat} {xs : Nat → Int32} {x4 : Int32} (Γ : CallFix p m c code 7 s args rl_TT nR_La) (hO : rl_Ok E s) (hlq : rl_Lq l) (hX : va_X b0 Ln xs s s.heap) (hbl : b0 < s.heap.size) (hbA : ¬ rl_A E b0) (hv1 : vp_in (x4 + 1) Ln) (hv2 : vp_in (x4 + 2) Ln) (hv3 : vp_in (x4 + 3) Ln) (hv4 : vp_in (x4 + 4) Ln) (hcl : cells + 1 ≤ room_1.cells ∧ slots + 6 ≤ room_1.slots) {τ : rl_M} (h : lf_11 (xs (x4 + 1).toNatClampNeg) (xs (x4 + 2).toNatClampNeg) (xs (x4 + 3).toNatClampNeg) (xs (x4 + 4).toNatClampNeg) σ = some τ) (kk : rl_G p l e room_1 s m args below meth c 7 E (cells + 1) (slots + 6) Q τ 941 [(0, .ref b0), (1, .ref (E.1 0)), (2, .ref (E.1 59)), (3, .ref (E.1 78)), (4, .int x4)] []) : rl_G p l e room_1 s m args below meth c 7 E cells slots Q σ 797 [(0, .ref b0), (1, .ref (E.1 0)), (2, .ref (E.1 59)), (3, .ref (E.1 78)), (4, .int x4)] [] := by
  unfold lf_11 at h
  refine rl_aload_n (pc := 797) Γ nd_law_797 1 rfl ?_
  refine rl_aload_n (pc := 798) Γ nd_law_798 0 rfl ?_
  refine rl_iload (pc := 799) Γ nd_law_799 4 rfl ?_
  refine rl_iconst (v := 1) (pc := 801) Γ nd_law_801 (by decide) ?_
  refine rl_iadd (pc := 802) Γ nd_law_802 ?_
  refine rl_sld (pc := 803) Γ nd_law_803 hX hbl hbA hv1 ?_
  refine rl_aload_n (pc := 804) Γ nd_law_804 0 rfl ?_
  refine rl_iload (pc := 805) Γ nd_law_805 4 rfl ?_
  refine rl_iconst (v := 2) (pc := 807) Γ nd_law_807 (by decide) ?_
  refine rl_iadd (pc := 808) Γ nd_law_808 ?_
  refine rl_sld (pc := 809) Γ nd_law_809 hX hbl hbA hv2 ?_
  refine rl_aload_n (pc := 810) Γ nd_law_810 3 rfl ?_
  obtain ⟨q1, q1h, h⟩ := rl_bd h
  refine rl_callW (As := [.ref (E.1 0), .int (xs (x4 + 1).toNatClampNeg), .int (xs (x4 + 2).toNatClampNeg), .ref (E.1 78)]) (pc := 811) Γ nd_law_811 hO (ww_swap l hlq E (xs (x4 + 1).toNatClampNeg) (xs (x4 + 2).toNatClampNeg) σ q1 q1h) 4 nm_law_104 nm_st_La_swap nm_ini_La nh_La_swap ⟨rfl, rfl⟩ (by decide +kernel) (Nat.le_of_ble_eq_true rfl) (Nat.le_of_ble_eq_true rfl) hcl (Nat.le_of_ble_eq_true rfl) rfl rfl ?_
  refine rl_istore (L' := [(5, .int q1.1), (0, .ref b0), (1, .ref (E.1 0)), (2, .ref (E.1 59)), (3, .ref (E.1 78)), (4, .int x4)]) (pc := 814) Γ nd_law_814 (by decide) rfl ?_
  refine rl_aload_n (pc := 816) Γ nd_law_816 3 rfl ?_
  refine rl_aload_n (pc := 817) Γ nd_law_817 1 rfl ?_
  refine rl_iload (pc := 818) Γ nd_law_818 5 rfl ?_
  refine rl_iconst (v := 1) (pc := 820) Γ nd_law_820 (by decide) ?_
  refine rl_iadd (pc := 821) Γ nd_law_821 ?_
  refine rl_sld (pc := 822) Γ nd_law_822 hX hbl hbA hv1 ?_
  refine rl_aload_n (pc := 823) Γ nd_law_823 1 rfl ?_
  refine rl_iload (pc := 824) Γ nd_law_824 5 rfl ?_
  refine rl_iconst (v := 2) (pc := 826) Γ nd_law_826 (by decide) ?_
  refine rl_iadd (pc := 827) Γ nd_law_827 ?_
  refine rl_sld (pc := 828) Γ nd_law_828 hX hbl hbA hv2 ?_
  obtain ⟨q2, q2h, h⟩ := rl_bd h
  refine rl_callVi (As := [.int (xs (x4 + 1).toNatClampNeg), .int (xs (x4 + 2).toNatClampNeg)]) (pc := 829) Γ nd_law_829 hO (rw_Mo_swap l E (xs (x4 + 1).toNatClampNeg) (xs (x4 + 2).toNatClampNeg) q1.2 q2 q2h) 2 nm_La_106 nm_im_Mo_swap nm_se_Mo_swap nm_ini_Mo nh_Mo_swap (rl_o59 E) rfl ⟨rfl, rfl⟩ (by decide +kernel) (Nat.le_of_ble_eq_true rfl) (Nat.le_of_ble_eq_true rfl) hcl (Nat.le_of_ble_eq_true rfl) rfl rfl ?_
  refine rl_istore (L' := [(6, .int q2.1), (5, .int q1.1), (0, .ref b0), (1, .ref (E.1 0)), (2, .ref (E.1 59)), (3, .ref (E.1 78)), (4, .int x4)]) (pc := 832) Γ nd_law_832 (by decide) rfl ?_
  refine rl_aload_n (pc := 834) Γ nd_law_834 4 rfl ?_
  obtain ⟨q3, q3h, h⟩ := rl_bd h
  refine rl_callVi (As := []) (pc := 835) Γ nd_law_835 hO (rw_Mo_thrown l E  q2.2 q3 q3h) 0 nm_La_63 nm_im_Mo_thrown nm_se_Mo_thrown nm_ini_Mo nh_Mo_thrown (rl_o59 E) rfl ⟨rfl, rfl⟩ (by decide +kernel) (Nat.le_of_ble_eq_true rfl) (Nat.le_of_ble_eq_true rfl) hcl (Nat.le_of_ble_eq_true rfl) rfl rfl ?_
  refine rl_iload (pc := 838) Γ nd_law_838 1 rfl ?_
  refine rl_icmp_eq (tgt := 845) (pc := 840) Γ nd_law_840 (by decide) (fun q4 => ?_) (fun q4 => ?_)
  · have h := rl_ift q4 h
    refine rl_iload (pc := 845) Γ nd_law_845 1 rfl ?_
    refine rl_if_ne (tgt := 869) (pc := 847) Γ nd_law_847 (by decide) (fun q5 => ?_) (fun q5 => ?_)
    · have h := rl_iff q5 h
      refine rl_goto (tgt := 941) (pc := 869) Γ nd_law_869 (by decide) ?_
      cases h
      exact rl_Gsub [2, 3, 4, 5, 6] rfl kk
    · have h := rl_ift q5 h
      refine rl_aload_n (pc := 850) Γ nd_law_850 5 rfl ?_
      refine rl_iconst (v := 0) (pc := 851) Γ nd_law_851 (by decide) ?_
      refine rl_lld (pc := 852) Γ nd_law_852 hO ?_
      refine rl_iload (pc := 853) Γ nd_law_853 0 rfl ?_
      refine rl_if_eq (tgt := 862) (pc := 855) Γ nd_law_855 (by decide) (fun q6 => ?_) (fun q6 => ?_)
      · have h := rl_ift q6 h
        refine rl_lconst (v := 0) (pc := 862) Γ nd_law_862 (by decide) ?_
        refine rl_lcmp (pc := 863) Γ nd_law_863 ?_
        refine rl_if_eq (tgt := 869) (pc := 864) Γ nd_law_864 (by decide) (fun q7 => ?_) (fun q7 => ?_)
        · have h := rl_ift q7 h
          refine rl_goto (tgt := 941) (pc := 869) Γ nd_law_869 (by decide) ?_
          cases h
          exact rl_Gsub [2, 3, 4, 5, 6] rfl kk
        · have h := rl_iff q7 h
          exact (rl_ns h).elim
      · have h := rl_iff q6 h
        refine rl_lconst (v := 1) (pc := 858) Γ nd_law_858 (by decide) ?_
        refine rl_goto (tgt := 863) (pc := 859) Γ nd_law_859 (by decide) ?_
        refine rl_lcmp (pc := 863) Γ nd_law_863 ?_
        refine rl_if_eq (tgt := 869) (pc := 864) Γ nd_law_864 (by decide) (fun q8 => ?_) (fun q8 => ?_)
        · have h := rl_ift q8 h
          refine rl_goto (tgt := 941) (pc := 869) Γ nd_law_869 (by decide) ?_
          cases h
          exact rl_Gsub [2, 3, 4, 5, 6] rfl kk
        · have h := rl_iff q8 h
          exact (rl_ns h).elim
  · have h := rl_iff q4 h
    exact (rl_ns h).elim
def lf_12 (P1 P2 P3 P4 : Int32) (σ : rl_M) : Option rl_M := ((rf_Ro_improve  σ).bind (fun q1 => ((rf_Mo_improve  q1.2).bind (fun q2 => (if q1.1 = q2.1 then some q2.2 else none)))))
set_option maxHeartbeats 4000000 in
set_option maxRecDepth 100000 in
theorem lw_12 {p : Program} {l : Launch} {e : Env} {s : State} {m : MethodId} {args : Array Value} {below : List Frame} {meth : Method} {c : Code} {cells slots : Nat} {Q : State → Prop} {E : rl_E} {σ : rl_M} {b0 Ln : Nat} {xs : Nat → Int32} {x4 : Int32} (Γ : CallFix p m c code 7 s args rl_TT nR_La) (hO : rl_Ok E s) (hlq : rl_Lq l) (hX : va_X b0 Ln xs s s.heap) (hbl : b0 < s.heap.size) (hbA : ¬ rl_A E b0) (hv1 : vp_in (x4 + 1) Ln) (hv2 : vp_in (x4 + 2) Ln) (hv3 : vp_in (x4 + 3) Ln) (hv4 : vp_in (x4 + 4) Ln) (hcl : cells + 1 ≤ room_1.cells ∧ slots + 6 ≤ room_1.slots) {τ : rl_M} (h : lf_12 (xs (x4 + 1).toNatClampNeg) (xs (x4 + 2).toNatClampNeg) (xs (x4 + 3).toNatClampNeg) (xs (x4 + 4).toNatClampNeg) σ = some τ) (kk : rl_G p l e room_1 s m args below meth c 7 E (cells + 1) (slots + 6) Q τ 941 [(0, .ref b0), (1, .ref (E.1 0)), (2, .ref (E.1 59)), (3, .ref (E.1 78)), (4, .int x4)] []) : rl_G p l e room_1 s m args below meth c 7 E cells slots Q σ 872 [(0, .ref b0), (1, .ref (E.1 0)), (2, .ref (E.1 59)), (3, .ref (E.1 78)), (4, .int x4)] [] := by
  unfold lf_12 at h
  refine rl_aload_n (pc := 872) Γ nd_law_872 1 rfl ?_
  obtain ⟨q1, q1h, h⟩ := rl_bd h
  refine rl_callVi (As := []) (pc := 873) Γ nd_law_873 hO (rw_Ro_improve l E  σ q1 q1h) 0 nm_La_107 nm_im_Ro_improve nm_se_Ro_improve nm_ini_Ro nh_Ro_improve (rl_o0 E) rfl ⟨rfl, rfl⟩ (by decide +kernel) (Nat.le_of_ble_eq_true rfl) (Nat.le_of_ble_eq_true rfl) ⟨Nat.le_of_succ_le hcl.1, Nat.le_trans (Nat.le_add_right _ 6) hcl.2⟩ (Nat.le_of_ble_eq_true rfl) rfl rfl ?_
  refine rl_aload_n (pc := 876) Γ nd_law_876 2 rfl ?_
  obtain ⟨q2, q2h, h⟩ := rl_bd h
  refine rl_callVi (As := []) (pc := 877) Γ nd_law_877 hO (rw_Mo_improve l E  q1.2 q2 q2h) 0 nm_La_111 nm_im_Mo_improve nm_se_Mo_improve nm_ini_Mo nh_Mo_improve (rl_o59 E) rfl ⟨rfl, rfl⟩ (by decide +kernel) (Nat.le_of_ble_eq_true rfl) (Nat.le_of_ble_eq_true rfl) ⟨Nat.le_of_succ_le hcl.1, Nat.le_trans (Nat.le_add_right _ 6) hcl.2⟩ (Nat.le_of_ble_eq_true rfl) rfl rfl ?_
  refine rl_icmp_eq (tgt := 941) (pc := 880) Γ nd_law_880 (by decide) (fun q3 => ?_) (fun q3 => ?_)
  · have h := rl_ift q3 h
    cases h
    refine rl_widen (Nat.le_add_right _ 1) (Nat.le_add_right _ 6) ?_
    exact rl_Gsub [0, 1, 2, 3, 4] rfl kk
  · have h := rl_iff q3 h
    exact (rl_ns h).elim
def lf_13 (P1 P2 P3 P4 : Int32) (σ : rl_M) : Option rl_M := ((wf_sign P1 σ).bind (fun q1 => ((rf_Mo_sign P1 q1.2).bind (fun q2 => ((rf_Mo_thrown  q2.2).bind (fun q3 => (if q3.1 = q1.1 then (if q1.1 = 0 then (if (lg_cmp ((q3.2 78 0).toInt64) q2.1.toInt64) = 0 then some q3.2 else none) else some q3.2) else none)))))))
set_option maxHeartbeats 4000000 in
set_option maxRecDepth 100000 in
theorem lw_13 {p : Program} {l : Launch} {e : Env} {s : State} {m : MethodId} {args : Array Value} {below : List Frame} {meth : Method} {c : Code} {cells slots : Nat} {Q : State → Prop} {E : rl_E} {σ : rl_M} {b0 Ln : Nat} {xs : Nat → Int32} {x4 : Int32} (Γ : CallFix p m c code 7 s args rl_TT nR_La) (hO : rl_Ok E s) (hlq : rl_Lq l) (hX : va_X b0 Ln xs s s.heap) (hbl : b0 < s.heap.size) (hbA : ¬ rl_A E b0) (hv1 : vp_in (x4 + 1) Ln) (hv2 : vp_in (x4 + 2) Ln) (hv3 : vp_in (x4 + 3) Ln) (hv4 : vp_in (x4 + 4) Ln) (hcl : cells + 1 ≤ room_1.cells ∧ slots + 6 ≤ room_1.slots) {τ : rl_M} (h : lf_13 (xs (x4 + 1).toNatClampNeg) (xs (x4 + 2).toNatClampNeg) (xs (x4 + 3).toNatClampNeg) (xs (x4 + 4).toNatClampNeg) σ = some τ) (kk : rl_G p l e room_1 s m args below meth c 7 E (cells + 1) (slots + 6) Q τ 941 [(0, .ref b0), (1, .ref (E.1 0)), (2, .ref (E.1 59)), (3, .ref (E.1 78)), (4, .int x4)] []) : rl_G p l e room_1 s m args below meth c 7 E cells slots Q σ 885 [(0, .ref b0), (1, .ref (E.1 0)), (2, .ref (E.1 59)), (3, .ref (E.1 78)), (4, .int x4)] [] := by
  unfold lf_13 at h
  refine rl_aload_n (pc := 885) Γ nd_law_885 1 rfl ?_
  refine rl_aload_n (pc := 886) Γ nd_law_886 0 rfl ?_
  refine rl_iload (pc := 887) Γ nd_law_887 4 rfl ?_
  refine rl_iconst (v := 1) (pc := 889) Γ nd_law_889 (by decide) ?_
  refine rl_iadd (pc := 890) Γ nd_law_890 ?_
  refine rl_sld (pc := 891) Γ nd_law_891 hX hbl hbA hv1 ?_
  refine rl_aload_n (pc := 892) Γ nd_law_892 3 rfl ?_
  obtain ⟨q1, q1h, h⟩ := rl_bd h
  refine rl_callW (As := [.ref (E.1 0), .int (xs (x4 + 1).toNatClampNeg), .ref (E.1 78)]) (pc := 893) Γ nd_law_893 hO (ww_sign l hlq E (xs (x4 + 1).toNatClampNeg) σ q1 q1h) 3 nm_law_112 nm_st_La_sign nm_ini_La nh_La_sign ⟨rfl, rfl⟩ (by decide +kernel) (Nat.le_of_ble_eq_true rfl) (Nat.le_of_ble_eq_true rfl) hcl (Nat.le_of_ble_eq_true rfl) rfl rfl ?_
  refine rl_istore (L' := [(5, .int q1.1), (0, .ref b0), (1, .ref (E.1 0)), (2, .ref (E.1 59)), (3, .ref (E.1 78)), (4, .int x4)]) (pc := 896) Γ nd_law_896 (by decide) rfl ?_
  refine rl_aload_n (pc := 898) Γ nd_law_898 3 rfl ?_
  refine rl_aload_n (pc := 899) Γ nd_law_899 1 rfl ?_
  refine rl_iload (pc := 900) Γ nd_law_900 5 rfl ?_
  refine rl_iconst (v := 1) (pc := 902) Γ nd_law_902 (by decide) ?_
  refine rl_iadd (pc := 903) Γ nd_law_903 ?_
  refine rl_sld (pc := 904) Γ nd_law_904 hX hbl hbA hv1 ?_
  obtain ⟨q2, q2h, h⟩ := rl_bd h
  refine rl_callVi (As := [.int (xs (x4 + 1).toNatClampNeg)]) (pc := 905) Γ nd_law_905 hO (rw_Mo_sign l E (xs (x4 + 1).toNatClampNeg) q1.2 q2 q2h) 1 nm_La_114 nm_im_Mo_sign nm_se_Mo_sign nm_ini_Mo nh_Mo_sign (rl_o59 E) rfl ⟨rfl, rfl⟩ (by decide +kernel) (Nat.le_of_ble_eq_true rfl) (Nat.le_of_ble_eq_true rfl) hcl (Nat.le_of_ble_eq_true rfl) rfl rfl ?_
  refine rl_istore (L' := [(6, .int q2.1), (5, .int q1.1), (0, .ref b0), (1, .ref (E.1 0)), (2, .ref (E.1 59)), (3, .ref (E.1 78)), (4, .int x4)]) (pc := 908) Γ nd_law_908 (by decide) rfl ?_
  refine rl_aload_n (pc := 910) Γ nd_law_910 4 rfl ?_
  obtain ⟨q3, q3h, h⟩ := rl_bd h
  refine rl_callVi (As := []) (pc := 911) Γ nd_law_911 hO (rw_Mo_thrown l E  q2.2 q3 q3h) 0 nm_La_63 nm_im_Mo_thrown nm_se_Mo_thrown nm_ini_Mo nh_Mo_thrown (rl_o59 E) rfl ⟨rfl, rfl⟩ (by decide +kernel) (Nat.le_of_ble_eq_true rfl) (Nat.le_of_ble_eq_true rfl) hcl (Nat.le_of_ble_eq_true rfl) rfl rfl ?_
  refine rl_iload (pc := 914) Γ nd_law_914 1 rfl ?_
  refine rl_icmp_eq (tgt := 921) (pc := 916) Γ nd_law_916 (by decide) (fun q4 => ?_) (fun q4 => ?_)
  · have h := rl_ift q4 h
    refine rl_iload (pc := 921) Γ nd_law_921 1 rfl ?_
    refine rl_if_ne (tgt := 938) (pc := 923) Γ nd_law_923 (by decide) (fun q5 => ?_) (fun q5 => ?_)
    · have h := rl_iff q5 h
      refine rl_goto (tgt := 941) (pc := 938) Γ nd_law_938 (by decide) ?_
      cases h
      exact rl_Gsub [2, 3, 4, 5, 6] rfl kk
    · have h := rl_ift q5 h
      refine rl_aload_n (pc := 926) Γ nd_law_926 5 rfl ?_
      refine rl_iconst (v := 0) (pc := 927) Γ nd_law_927 (by decide) ?_
      refine rl_lld (pc := 928) Γ nd_law_928 hO ?_
      refine rl_iload (pc := 929) Γ nd_law_929 0 rfl ?_
      refine rl_i2l (pc := 931) Γ nd_law_931 ?_
      refine rl_lcmp (pc := 932) Γ nd_law_932 ?_
      refine rl_if_eq (tgt := 938) (pc := 933) Γ nd_law_933 (by decide) (fun q6 => ?_) (fun q6 => ?_)
      · have h := rl_ift q6 h
        refine rl_goto (tgt := 941) (pc := 938) Γ nd_law_938 (by decide) ?_
        cases h
        exact rl_Gsub [2, 3, 4, 5, 6] rfl kk
      · have h := rl_iff q6 h
        exact (rl_ns h).elim
  · have h := rl_iff q4 h
    exact (rl_ns h).elim
