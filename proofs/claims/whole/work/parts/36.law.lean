def xL_law : JX := (yL_law, cL_law, 7, some .boolean)
/-- the law's end: what the claim asks, at the claim's own start -/
def Zlaw : JZ := fun Rm s args below n0 z0 t => (Rm = room_1 ∧ n0 = 0 ∧ z0 = 0 ∧ ∃ b : Nat, args = #[Value.ref b]) → lw_Z below args s t
theorem j_lawret {E : JE} {d pc : Nat} {lv : List (Nat × Value)} {I : JI} {L : JL} {G D : JG} {S : JS} (hd : decode xL_law.2.1 pc = .ok (.ireturn, 1)) (hz : S.length ≤ 601024 ∧ jm_sl S ≤ 7293034) : AtJ E xL_law Zlaw (601024, 7293034) d pc lv [.int 1] I L G D S := by
  refine ⟨hz, fun p e Rm s m args below meth c H locs n0 z0 ls hC hR hU hN hP hS hl => ?_⟩
  by_cases hb : Rm = room_1 ∧ n0 = 0 ∧ z0 = 0 ∧ ∃ b : Nat, args = #[Value.ref b]
  · have hb2 := hb
    obtain ⟨rfl, rfl, rfl, b, rfl⟩ := hb2
    refine va_forget (fun q hq => ?_) ?_
    · have := hS.2.2 q hq
      have h2 := hN.2.2
      show s.heap.size ≤ q.base
      rw [← h2]
      exact this
    refine W.widen (k := 601024) (n := 7293034) hz.1 hz.2 ?_
    intro T hT X
    obtain ⟨t, a1, a2⟩ := lw_ret hC.1 hC.2.1 hC.2.2.2.1 hC.2.2.2.2.1 hd T hT X
    exact ⟨t, a1, fun _ => a2⟩
  · intro T hT X
    exact ⟨_, Steps.refl _, fun h => absurd h hb⟩
def fL_law_176 (e : Nat → Nat) (k23 : Int32 → JI → JL → JG → JG → JS → Option Int32) (l4 : Int32) (I : JI) (L : JL) (G : JG) (D : JG) (S : JS) : Option Int32 :=
  j_g (j_in (l4 + (1 : Int32)) (e 104)) (j_g (j_in (l4 + (2 : Int32)) (e 104)) ((fX11_parcel (nI (e (1000 + (l4 + (1 : Int32)).toNatClampNeg))) (nI (e (1000 + (l4 + (2 : Int32)).toNatClampNeg))) I).bind (fun q1 => j_g (j_in (l4 + (1 : Int32)) (e 104)) (j_g (j_in (l4 + (2 : Int32)) (e 104)) ((fX12_parcel (nI (e (1000 + (l4 + (1 : Int32)).toNatClampNeg))) (nI (e (1000 + (l4 + (2 : Int32)).toNatClampNeg))) q1.2).bind (fun q2 => if q1.1 = q2.1 then (k23 (l4 + (8 : Int32)) q2.2 L G D S) else (some (0 : Int32))))))))
set_option maxHeartbeats 4000000 in
set_option maxRecDepth 100000 in
theorem kL_law_176 {E : JE} {k23 : Int32 → JI → JL → JG → JG → JS → Option Int32} (H23 : ∀ (l4 : Int32) (I : JI) (L : JL) (G : JG) (D : JG) (S : JS), Lay G S → S[136]? = some (23, 1) → k23 l4 I L G D S = some 1 → AtJ E xL_law Zlaw (601024, 7293034) 200 23 [(0, .ref (E.2.2.2 103)), (1, .ref (E.1 + 0)), (2, .ref (E.1 + 66)), (3, .ref (E.1 + 136)), (4, .int l4)] [] I L G D S) : ∀ (l4 : Int32) (I : JI) (L : JL) (G : JG) (D : JG) (S : JS), Lay G S → S[136]? = some (23, 1) → fL_law_176 E.2.2.2 k23 l4 I L G D S = some 1 → AtJ E xL_law Zlaw (601024, 7293034) 200 176 [(0, .ref (E.2.2.2 103)), (1, .ref (E.1 + 0)), (2, .ref (E.1 + 66)), (3, .ref (E.1 + 136)), (4, .int l4)] [] I L G D S := by
  intro l4 I L G D S hL h3 h
  unfold fL_law_176 at h
  refine j_aload_n 177 dL_law_176 rfl rfl 1 rfl ?_
  refine j_aload_n 178 dL_law_177 rfl rfl 0 rfl ?_
  refine j_iload 180 dL_law_178 rfl 4 rfl ?_
  refine j_iconst (v := (1 : Int32)) 181 dL_law_180 rfl (by decide) ?_
  refine j_iadd 182 dL_law_181 rfl ?_
  obtain ⟨hg, h⟩ := j_gs h
  refine j_sld 183 dL_law_182 rfl (j_inv hg) ?_
  refine j_aload_n 184 dL_law_183 rfl rfl 0 rfl ?_
  refine j_iload 186 dL_law_184 rfl 4 rfl ?_
  refine j_iconst (v := (2 : Int32)) 187 dL_law_186 rfl (by decide) ?_
  refine j_iadd 188 dL_law_187 rfl ?_
  obtain ⟨hg, h⟩ := j_gs h
  refine j_sld 189 dL_law_188 rfl (j_inv hg) ?_
  obtain ⟨q1, hq1, h⟩ := j_bs h
  refine j_callV (rest := []) (As := [.int (nI (E.2.2.2 (1000 + (l4 + (1 : Int32)).toNatClampNeg))), .int (nI (E.2.2.2 (1000 + (l4 + (2 : Int32)).toNatClampNeg)))]) 192 dL_law_189 rfl jyX11_parcel (tcX11_parcel hL  hq1) (sh_0 hL) cl11 flL_19 wm638 wm639 (by decide) rfl rfl (Nat.le_of_ble_eq_true rfl) ?_
  refine j_aload_n 193 dL_law_192 rfl rfl 2 rfl ?_
  refine j_aload_n 194 dL_law_193 rfl rfl 0 rfl ?_
  refine j_iload 196 dL_law_194 rfl 4 rfl ?_
  refine j_iconst (v := (1 : Int32)) 197 dL_law_196 rfl (by decide) ?_
  refine j_iadd 198 dL_law_197 rfl ?_
  obtain ⟨hg, h⟩ := j_gs h
  refine j_sld 199 dL_law_198 rfl (j_inv hg) ?_
  refine j_aload_n 200 dL_law_199 rfl rfl 0 rfl ?_
  refine j_iload 202 dL_law_200 rfl 4 rfl ?_
  refine j_iconst (v := (2 : Int32)) 203 dL_law_202 rfl (by decide) ?_
  refine j_iadd 204 dL_law_203 rfl ?_
  obtain ⟨hg, h⟩ := j_gs h
  refine j_sld 205 dL_law_204 rfl (j_inv hg) ?_
  obtain ⟨q2, hq2, h⟩ := j_bs h
  refine j_callV (rest := [.int q1.1]) (As := [.int (nI (E.2.2.2 (1000 + (l4 + (1 : Int32)).toNatClampNeg))), .int (nI (E.2.2.2 (1000 + (l4 + (2 : Int32)).toNatClampNeg)))]) 208 dL_law_205 rfl jyX12_parcel (tcX12_parcel hL  hq2) (sh_66 hL) cl12 flL_23 wm1693 wm1694 (by decide) rfl rfl (Nat.le_of_ble_eq_true rfl) ?_
  refine j_icmp_eq 1823 211 dL_law_208 (by decide) rfl (fun hc => ?_) (fun hc => ?_)
  · replace h := j_pos hc h
    refine j_iinc (v := (l4 + (8 : Int32))) (lv' := [(4, .int (l4 + (8 : Int32))), (0, .ref (E.2.2.2 103)), (1, .ref (E.1 + 0)), (2, .ref (E.1 + 66)), (3, .ref (E.1 + 136))]) (q := 4) 1826 dL_law_1823 rfl rfl rfl (by decide) rfl ?_
    refine j_goto 23 dL_law_1826 (by decide) ?_
    refine j_sub [1, 2, 3, 4, 0] rfl ?_
    exact H23 _ _ _ _ _ _ hL h3 h
  · replace h := j_neg hc h
    refine j_iconst (v := (0 : Int32)) 212 dL_law_211 rfl (by decide) ?_
    exact absurd (Option.some.inj h) (by decide)
def fL_law_213 (e : Nat → Nat) (k23 : Int32 → JI → JL → JG → JG → JS → Option Int32) (l4 : Int32) (I : JI) (L : JL) (G : JG) (D : JG) (S : JS) : Option Int32 :=
  j_g (j_in (l4 + (1 : Int32)) (e 104)) (j_g (j_in (l4 + (2 : Int32)) (e 104)) (j_g (j_in (l4 + (3 : Int32)) (e 104)) (j_g (j_in (l4 + (4 : Int32)) (e 104)) ((fX11_part (nI (e (1000 + (l4 + (1 : Int32)).toNatClampNeg))) (nI (e (1000 + (l4 + (2 : Int32)).toNatClampNeg))) (nI (e (1000 + (l4 + (3 : Int32)).toNatClampNeg))) (nI (e (1000 + (l4 + (4 : Int32)).toNatClampNeg))) I).bind (fun q3 => j_g (j_in (l4 + (1 : Int32)) (e 104)) (j_g (j_in (l4 + (2 : Int32)) (e 104)) (j_g (j_in (l4 + (3 : Int32)) (e 104)) (j_g (j_in (l4 + (4 : Int32)) (e 104)) ((fX12_part (nI (e (1000 + (l4 + (1 : Int32)).toNatClampNeg))) (nI (e (1000 + (l4 + (2 : Int32)).toNatClampNeg))) (nI (e (1000 + (l4 + (3 : Int32)).toNatClampNeg))) (nI (e (1000 + (l4 + (4 : Int32)).toNatClampNeg))) q3.2).bind (fun q4 => if q3.1 = q4.1 then (k23 (l4 + (8 : Int32)) q4.2 L G D S) else (some (0 : Int32))))))))))))
set_option maxHeartbeats 4000000 in
set_option maxRecDepth 100000 in
theorem kL_law_213 {E : JE} {k23 : Int32 → JI → JL → JG → JG → JS → Option Int32} (H23 : ∀ (l4 : Int32) (I : JI) (L : JL) (G : JG) (D : JG) (S : JS), Lay G S → S[136]? = some (23, 1) → k23 l4 I L G D S = some 1 → AtJ E xL_law Zlaw (601024, 7293034) 200 23 [(0, .ref (E.2.2.2 103)), (1, .ref (E.1 + 0)), (2, .ref (E.1 + 66)), (3, .ref (E.1 + 136)), (4, .int l4)] [] I L G D S) : ∀ (l4 : Int32) (I : JI) (L : JL) (G : JG) (D : JG) (S : JS), Lay G S → S[136]? = some (23, 1) → fL_law_213 E.2.2.2 k23 l4 I L G D S = some 1 → AtJ E xL_law Zlaw (601024, 7293034) 200 213 [(0, .ref (E.2.2.2 103)), (1, .ref (E.1 + 0)), (2, .ref (E.1 + 66)), (3, .ref (E.1 + 136)), (4, .int l4)] [] I L G D S := by
  intro l4 I L G D S hL h3 h
  unfold fL_law_213 at h
  refine j_aload_n 214 dL_law_213 rfl rfl 1 rfl ?_
  refine j_aload_n 215 dL_law_214 rfl rfl 0 rfl ?_
  refine j_iload 217 dL_law_215 rfl 4 rfl ?_
  refine j_iconst (v := (1 : Int32)) 218 dL_law_217 rfl (by decide) ?_
  refine j_iadd 219 dL_law_218 rfl ?_
  obtain ⟨hg, h⟩ := j_gs h
  refine j_sld 220 dL_law_219 rfl (j_inv hg) ?_
  refine j_aload_n 221 dL_law_220 rfl rfl 0 rfl ?_
  refine j_iload 223 dL_law_221 rfl 4 rfl ?_
  refine j_iconst (v := (2 : Int32)) 224 dL_law_223 rfl (by decide) ?_
  refine j_iadd 225 dL_law_224 rfl ?_
  obtain ⟨hg, h⟩ := j_gs h
  refine j_sld 226 dL_law_225 rfl (j_inv hg) ?_
  refine j_aload_n 227 dL_law_226 rfl rfl 0 rfl ?_
  refine j_iload 229 dL_law_227 rfl 4 rfl ?_
  refine j_iconst (v := (3 : Int32)) 230 dL_law_229 rfl (by decide) ?_
  refine j_iadd 231 dL_law_230 rfl ?_
  obtain ⟨hg, h⟩ := j_gs h
  refine j_sld 232 dL_law_231 rfl (j_inv hg) ?_
  refine j_aload_n 233 dL_law_232 rfl rfl 0 rfl ?_
  refine j_iload 235 dL_law_233 rfl 4 rfl ?_
  refine j_iconst (v := (4 : Int32)) 236 dL_law_235 rfl (by decide) ?_
  refine j_iadd 237 dL_law_236 rfl ?_
  obtain ⟨hg, h⟩ := j_gs h
  refine j_sld 238 dL_law_237 rfl (j_inv hg) ?_
  obtain ⟨q3, hq3, h⟩ := j_bs h
  refine j_callV (rest := []) (As := [.int (nI (E.2.2.2 (1000 + (l4 + (1 : Int32)).toNatClampNeg))), .int (nI (E.2.2.2 (1000 + (l4 + (2 : Int32)).toNatClampNeg))), .int (nI (E.2.2.2 (1000 + (l4 + (3 : Int32)).toNatClampNeg))), .int (nI (E.2.2.2 (1000 + (l4 + (4 : Int32)).toNatClampNeg)))]) 241 dL_law_238 rfl jyX11_part (tcX11_part hL  hq3) (sh_0 hL) cl11 flL_24 wm656 wm657 (by decide) rfl rfl (Nat.le_of_ble_eq_true rfl) ?_
  refine j_aload_n 242 dL_law_241 rfl rfl 2 rfl ?_
  refine j_aload_n 243 dL_law_242 rfl rfl 0 rfl ?_
  refine j_iload 245 dL_law_243 rfl 4 rfl ?_
  refine j_iconst (v := (1 : Int32)) 246 dL_law_245 rfl (by decide) ?_
  refine j_iadd 247 dL_law_246 rfl ?_
  obtain ⟨hg, h⟩ := j_gs h
  refine j_sld 248 dL_law_247 rfl (j_inv hg) ?_
  refine j_aload_n 249 dL_law_248 rfl rfl 0 rfl ?_
  refine j_iload 251 dL_law_249 rfl 4 rfl ?_
  refine j_iconst (v := (2 : Int32)) 252 dL_law_251 rfl (by decide) ?_
  refine j_iadd 253 dL_law_252 rfl ?_
  obtain ⟨hg, h⟩ := j_gs h
  refine j_sld 254 dL_law_253 rfl (j_inv hg) ?_
  refine j_aload_n 255 dL_law_254 rfl rfl 0 rfl ?_
  refine j_iload 257 dL_law_255 rfl 4 rfl ?_
  refine j_iconst (v := (3 : Int32)) 258 dL_law_257 rfl (by decide) ?_
  refine j_iadd 259 dL_law_258 rfl ?_
  obtain ⟨hg, h⟩ := j_gs h
  refine j_sld 260 dL_law_259 rfl (j_inv hg) ?_
  refine j_aload_n 261 dL_law_260 rfl rfl 0 rfl ?_
  refine j_iload 263 dL_law_261 rfl 4 rfl ?_
  refine j_iconst (v := (4 : Int32)) 264 dL_law_263 rfl (by decide) ?_
  refine j_iadd 265 dL_law_264 rfl ?_
  obtain ⟨hg, h⟩ := j_gs h
  refine j_sld 266 dL_law_265 rfl (j_inv hg) ?_
  obtain ⟨q4, hq4, h⟩ := j_bs h
  refine j_callV (rest := [.int q3.1]) (As := [.int (nI (E.2.2.2 (1000 + (l4 + (1 : Int32)).toNatClampNeg))), .int (nI (E.2.2.2 (1000 + (l4 + (2 : Int32)).toNatClampNeg))), .int (nI (E.2.2.2 (1000 + (l4 + (3 : Int32)).toNatClampNeg))), .int (nI (E.2.2.2 (1000 + (l4 + (4 : Int32)).toNatClampNeg)))]) 269 dL_law_266 rfl jyX12_part (tcX12_part hL  hq4) (sh_66 hL) cl12 flL_28 wm1703 wm1704 (by decide) rfl rfl (Nat.le_of_ble_eq_true rfl) ?_
  refine j_icmp_eq 1823 272 dL_law_269 (by decide) rfl (fun hc => ?_) (fun hc => ?_)
  · replace h := j_pos hc h
    refine j_iinc (v := (l4 + (8 : Int32))) (lv' := [(4, .int (l4 + (8 : Int32))), (0, .ref (E.2.2.2 103)), (1, .ref (E.1 + 0)), (2, .ref (E.1 + 66)), (3, .ref (E.1 + 136))]) (q := 4) 1826 dL_law_1823 rfl rfl rfl (by decide) rfl ?_
    refine j_goto 23 dL_law_1826 (by decide) ?_
    refine j_sub [1, 2, 3, 4, 0] rfl ?_
    exact H23 _ _ _ _ _ _ hL h3 h
  · replace h := j_neg hc h
    refine j_iconst (v := (0 : Int32)) 273 dL_law_272 rfl (by decide) ?_
    exact absurd (Option.some.inj h) (by decide)
def fL_law_274 (e : Nat → Nat) (k23 : Int32 → JI → JL → JG → JG → JS → Option Int32) (l4 : Int32) (I : JI) (L : JL) (G : JG) (D : JG) (S : JS) : Option Int32 :=
  j_g (j_in (l4 + (1 : Int32)) (e 104)) (j_g (j_in (l4 + (2 : Int32)) (e 104)) (j_g (j_in (l4 + (3 : Int32)) (e 104)) ((fX11_beside (nI (e (1000 + (l4 + (1 : Int32)).toNatClampNeg))) (nI (e (1000 + (l4 + (2 : Int32)).toNatClampNeg))) (nI (e (1000 + (l4 + (3 : Int32)).toNatClampNeg))) I).bind (fun q5 => j_g (j_in (l4 + (1 : Int32)) (e 104)) (j_g (j_in (l4 + (2 : Int32)) (e 104)) (j_g (j_in (l4 + (3 : Int32)) (e 104)) ((fX12_beside (nI (e (1000 + (l4 + (1 : Int32)).toNatClampNeg))) (nI (e (1000 + (l4 + (2 : Int32)).toNatClampNeg))) (nI (e (1000 + (l4 + (3 : Int32)).toNatClampNeg))) q5.2).bind (fun q6 => if q5.1 = q6.1 then (k23 (l4 + (8 : Int32)) q6.2 L G D S) else (some (0 : Int32))))))))))
set_option maxHeartbeats 4000000 in
set_option maxRecDepth 100000 in
theorem kL_law_274 {E : JE} {k23 : Int32 → JI → JL → JG → JG → JS → Option Int32} (H23 : ∀ (l4 : Int32) (I : JI) (L : JL) (G : JG) (D : JG) (S : JS), Lay G S → S[136]? = some (23, 1) → k23 l4 I L G D S = some 1 → AtJ E xL_law Zlaw (601024, 7293034) 200 23 [(0, .ref (E.2.2.2 103)), (1, .ref (E.1 + 0)), (2, .ref (E.1 + 66)), (3, .ref (E.1 + 136)), (4, .int l4)] [] I L G D S) : ∀ (l4 : Int32) (I : JI) (L : JL) (G : JG) (D : JG) (S : JS), Lay G S → S[136]? = some (23, 1) → fL_law_274 E.2.2.2 k23 l4 I L G D S = some 1 → AtJ E xL_law Zlaw (601024, 7293034) 200 274 [(0, .ref (E.2.2.2 103)), (1, .ref (E.1 + 0)), (2, .ref (E.1 + 66)), (3, .ref (E.1 + 136)), (4, .int l4)] [] I L G D S := by
  intro l4 I L G D S hL h3 h
  unfold fL_law_274 at h
  refine j_aload_n 275 dL_law_274 rfl rfl 1 rfl ?_
  refine j_aload_n 276 dL_law_275 rfl rfl 0 rfl ?_
  refine j_iload 278 dL_law_276 rfl 4 rfl ?_
  refine j_iconst (v := (1 : Int32)) 279 dL_law_278 rfl (by decide) ?_
  refine j_iadd 280 dL_law_279 rfl ?_
  obtain ⟨hg, h⟩ := j_gs h
  refine j_sld 281 dL_law_280 rfl (j_inv hg) ?_
  refine j_aload_n 282 dL_law_281 rfl rfl 0 rfl ?_
  refine j_iload 284 dL_law_282 rfl 4 rfl ?_
  refine j_iconst (v := (2 : Int32)) 285 dL_law_284 rfl (by decide) ?_
  refine j_iadd 286 dL_law_285 rfl ?_
  obtain ⟨hg, h⟩ := j_gs h
  refine j_sld 287 dL_law_286 rfl (j_inv hg) ?_
  refine j_aload_n 288 dL_law_287 rfl rfl 0 rfl ?_
  refine j_iload 290 dL_law_288 rfl 4 rfl ?_
  refine j_iconst (v := (3 : Int32)) 291 dL_law_290 rfl (by decide) ?_
  refine j_iadd 292 dL_law_291 rfl ?_
  obtain ⟨hg, h⟩ := j_gs h
  refine j_sld 293 dL_law_292 rfl (j_inv hg) ?_
  obtain ⟨q5, hq5, h⟩ := j_bs h
  refine j_callV (rest := []) (As := [.int (nI (E.2.2.2 (1000 + (l4 + (1 : Int32)).toNatClampNeg))), .int (nI (E.2.2.2 (1000 + (l4 + (2 : Int32)).toNatClampNeg))), .int (nI (E.2.2.2 (1000 + (l4 + (3 : Int32)).toNatClampNeg)))]) 296 dL_law_293 rfl jyX11_beside (tcX11_beside hL  hq5) (sh_0 hL) cl11 flL_29 wm672 wm673 (by decide) rfl rfl (Nat.le_of_ble_eq_true rfl) ?_
  refine j_aload_n 297 dL_law_296 rfl rfl 2 rfl ?_
  refine j_aload_n 298 dL_law_297 rfl rfl 0 rfl ?_
  refine j_iload 300 dL_law_298 rfl 4 rfl ?_
  refine j_iconst (v := (1 : Int32)) 301 dL_law_300 rfl (by decide) ?_
  refine j_iadd 302 dL_law_301 rfl ?_
  obtain ⟨hg, h⟩ := j_gs h
  refine j_sld 303 dL_law_302 rfl (j_inv hg) ?_
  refine j_aload_n 304 dL_law_303 rfl rfl 0 rfl ?_
  refine j_iload 306 dL_law_304 rfl 4 rfl ?_
  refine j_iconst (v := (2 : Int32)) 307 dL_law_306 rfl (by decide) ?_
  refine j_iadd 308 dL_law_307 rfl ?_
  obtain ⟨hg, h⟩ := j_gs h
  refine j_sld 309 dL_law_308 rfl (j_inv hg) ?_
  refine j_aload_n 310 dL_law_309 rfl rfl 0 rfl ?_
  refine j_iload 312 dL_law_310 rfl 4 rfl ?_
  refine j_iconst (v := (3 : Int32)) 313 dL_law_312 rfl (by decide) ?_
  refine j_iadd 314 dL_law_313 rfl ?_
  obtain ⟨hg, h⟩ := j_gs h
  refine j_sld 315 dL_law_314 rfl (j_inv hg) ?_
  obtain ⟨q6, hq6, h⟩ := j_bs h
  refine j_callV (rest := [.int q5.1]) (As := [.int (nI (E.2.2.2 (1000 + (l4 + (1 : Int32)).toNatClampNeg))), .int (nI (E.2.2.2 (1000 + (l4 + (2 : Int32)).toNatClampNeg))), .int (nI (E.2.2.2 (1000 + (l4 + (3 : Int32)).toNatClampNeg)))]) 318 dL_law_315 rfl jyX12_beside (tcX12_beside hL  hq6) (sh_66 hL) cl12 flL_33 wm1715 wm1716 (by decide) rfl rfl (Nat.le_of_ble_eq_true rfl) ?_
  refine j_icmp_eq 1823 321 dL_law_318 (by decide) rfl (fun hc => ?_) (fun hc => ?_)
  · replace h := j_pos hc h
    refine j_iinc (v := (l4 + (8 : Int32))) (lv' := [(4, .int (l4 + (8 : Int32))), (0, .ref (E.2.2.2 103)), (1, .ref (E.1 + 0)), (2, .ref (E.1 + 66)), (3, .ref (E.1 + 136))]) (q := 4) 1826 dL_law_1823 rfl rfl rfl (by decide) rfl ?_
    refine j_goto 23 dL_law_1826 (by decide) ?_
    refine j_sub [1, 2, 3, 4, 0] rfl ?_
    exact H23 _ _ _ _ _ _ hL h3 h
  · replace h := j_neg hc h
    refine j_iconst (v := (0 : Int32)) 322 dL_law_321 rfl (by decide) ?_
    exact absurd (Option.some.inj h) (by decide)
def fL_law_323 (e : Nat → Nat) (k23 : Int32 → JI → JL → JG → JG → JS → Option Int32) (l4 : Int32) (I : JI) (L : JL) (G : JG) (D : JG) (S : JS) : Option Int32 :=
  j_g (j_in (l4 + (1 : Int32)) (e 104)) (j_g (j_in (l4 + (2 : Int32)) (e 104)) ((fX11_water (nI (e (1000 + (l4 + (1 : Int32)).toNatClampNeg))) (nI (e (1000 + (l4 + (2 : Int32)).toNatClampNeg))) I).bind (fun q7 => j_g (j_in (l4 + (1 : Int32)) (e 104)) (j_g (j_in (l4 + (2 : Int32)) (e 104)) ((fX12_water (nI (e (1000 + (l4 + (1 : Int32)).toNatClampNeg))) (nI (e (1000 + (l4 + (2 : Int32)).toNatClampNeg))) q7.2).bind (fun q8 => if q7.1 = q8.1 then (k23 (l4 + (8 : Int32)) q8.2 L G D S) else (some (0 : Int32))))))))
set_option maxHeartbeats 4000000 in
set_option maxRecDepth 100000 in
theorem kL_law_323 {E : JE} {k23 : Int32 → JI → JL → JG → JG → JS → Option Int32} (H23 : ∀ (l4 : Int32) (I : JI) (L : JL) (G : JG) (D : JG) (S : JS), Lay G S → S[136]? = some (23, 1) → k23 l4 I L G D S = some 1 → AtJ E xL_law Zlaw (601024, 7293034) 200 23 [(0, .ref (E.2.2.2 103)), (1, .ref (E.1 + 0)), (2, .ref (E.1 + 66)), (3, .ref (E.1 + 136)), (4, .int l4)] [] I L G D S) : ∀ (l4 : Int32) (I : JI) (L : JL) (G : JG) (D : JG) (S : JS), Lay G S → S[136]? = some (23, 1) → fL_law_323 E.2.2.2 k23 l4 I L G D S = some 1 → AtJ E xL_law Zlaw (601024, 7293034) 200 323 [(0, .ref (E.2.2.2 103)), (1, .ref (E.1 + 0)), (2, .ref (E.1 + 66)), (3, .ref (E.1 + 136)), (4, .int l4)] [] I L G D S := by
  intro l4 I L G D S hL h3 h
  unfold fL_law_323 at h
  refine j_aload_n 324 dL_law_323 rfl rfl 1 rfl ?_
  refine j_aload_n 325 dL_law_324 rfl rfl 0 rfl ?_
  refine j_iload 327 dL_law_325 rfl 4 rfl ?_
  refine j_iconst (v := (1 : Int32)) 328 dL_law_327 rfl (by decide) ?_
  refine j_iadd 329 dL_law_328 rfl ?_
  obtain ⟨hg, h⟩ := j_gs h
  refine j_sld 330 dL_law_329 rfl (j_inv hg) ?_
  refine j_aload_n 331 dL_law_330 rfl rfl 0 rfl ?_
  refine j_iload 333 dL_law_331 rfl 4 rfl ?_
  refine j_iconst (v := (2 : Int32)) 334 dL_law_333 rfl (by decide) ?_
  refine j_iadd 335 dL_law_334 rfl ?_
  obtain ⟨hg, h⟩ := j_gs h
  refine j_sld 336 dL_law_335 rfl (j_inv hg) ?_
  obtain ⟨q7, hq7, h⟩ := j_bs h
  refine j_callV (rest := []) (As := [.int (nI (E.2.2.2 (1000 + (l4 + (1 : Int32)).toNatClampNeg))), .int (nI (E.2.2.2 (1000 + (l4 + (2 : Int32)).toNatClampNeg)))]) 339 dL_law_336 rfl jyX11_water (tcX11_water hL  hq7) (sh_0 hL) cl11 flL_34 wm685 wm686 (by decide) rfl rfl (Nat.le_of_ble_eq_true rfl) ?_
  refine j_aload_n 340 dL_law_339 rfl rfl 2 rfl ?_
  refine j_aload_n 341 dL_law_340 rfl rfl 0 rfl ?_
  refine j_iload 343 dL_law_341 rfl 4 rfl ?_
  refine j_iconst (v := (1 : Int32)) 344 dL_law_343 rfl (by decide) ?_
  refine j_iadd 345 dL_law_344 rfl ?_
  obtain ⟨hg, h⟩ := j_gs h
  refine j_sld 346 dL_law_345 rfl (j_inv hg) ?_
  refine j_aload_n 347 dL_law_346 rfl rfl 0 rfl ?_
  refine j_iload 349 dL_law_347 rfl 4 rfl ?_
  refine j_iconst (v := (2 : Int32)) 350 dL_law_349 rfl (by decide) ?_
  refine j_iadd 351 dL_law_350 rfl ?_
  obtain ⟨hg, h⟩ := j_gs h
  refine j_sld 352 dL_law_351 rfl (j_inv hg) ?_
  obtain ⟨q8, hq8, h⟩ := j_bs h
  refine j_callV (rest := [.int q7.1]) (As := [.int (nI (E.2.2.2 (1000 + (l4 + (1 : Int32)).toNatClampNeg))), .int (nI (E.2.2.2 (1000 + (l4 + (2 : Int32)).toNatClampNeg)))]) 355 dL_law_352 rfl jyX12_water (tcX12_water hL  hq8) (sh_66 hL) cl12 flL_37 wm1719 wm1720 (by decide) rfl rfl (Nat.le_of_ble_eq_true rfl) ?_
  refine j_icmp_eq 1823 358 dL_law_355 (by decide) rfl (fun hc => ?_) (fun hc => ?_)
  · replace h := j_pos hc h
    refine j_iinc (v := (l4 + (8 : Int32))) (lv' := [(4, .int (l4 + (8 : Int32))), (0, .ref (E.2.2.2 103)), (1, .ref (E.1 + 0)), (2, .ref (E.1 + 66)), (3, .ref (E.1 + 136))]) (q := 4) 1826 dL_law_1823 rfl rfl rfl (by decide) rfl ?_
    refine j_goto 23 dL_law_1826 (by decide) ?_
    refine j_sub [1, 2, 3, 4, 0] rfl ?_
    exact H23 _ _ _ _ _ _ hL h3 h
  · replace h := j_neg hc h
    refine j_iconst (v := (0 : Int32)) 359 dL_law_358 rfl (by decide) ?_
    exact absurd (Option.some.inj h) (by decide)
def fL_law_360 (e : Nat → Nat) (k23 : Int32 → JI → JL → JG → JG → JS → Option Int32) (l4 : Int32) (I : JI) (L : JL) (G : JG) (D : JG) (S : JS) : Option Int32 :=
  j_g (j_in (l4 + (1 : Int32)) (e 104)) (j_g (j_in (l4 + (2 : Int32)) (e 104)) (j_g (j_in (l4 + (3 : Int32)) (e 104)) ((fX11_kin (nI (e (1000 + (l4 + (1 : Int32)).toNatClampNeg))) (nI (e (1000 + (l4 + (2 : Int32)).toNatClampNeg))) (nI (e (1000 + (l4 + (3 : Int32)).toNatClampNeg))) I).bind (fun q9 => j_g (j_in (l4 + (1 : Int32)) (e 104)) (j_g (j_in (l4 + (2 : Int32)) (e 104)) (j_g (j_in (l4 + (3 : Int32)) (e 104)) ((fX12_kin (nI (e (1000 + (l4 + (1 : Int32)).toNatClampNeg))) (nI (e (1000 + (l4 + (2 : Int32)).toNatClampNeg))) (nI (e (1000 + (l4 + (3 : Int32)).toNatClampNeg))) q9.2).bind (fun q10 => if q9.1 = q10.1 then (k23 (l4 + (8 : Int32)) q10.2 L G D S) else (some (0 : Int32))))))))))
set_option maxHeartbeats 4000000 in
set_option maxRecDepth 100000 in
theorem kL_law_360 {E : JE} {k23 : Int32 → JI → JL → JG → JG → JS → Option Int32} (H23 : ∀ (l4 : Int32) (I : JI) (L : JL) (G : JG) (D : JG) (S : JS), Lay G S → S[136]? = some (23, 1) → k23 l4 I L G D S = some 1 → AtJ E xL_law Zlaw (601024, 7293034) 200 23 [(0, .ref (E.2.2.2 103)), (1, .ref (E.1 + 0)), (2, .ref (E.1 + 66)), (3, .ref (E.1 + 136)), (4, .int l4)] [] I L G D S) : ∀ (l4 : Int32) (I : JI) (L : JL) (G : JG) (D : JG) (S : JS), Lay G S → S[136]? = some (23, 1) → fL_law_360 E.2.2.2 k23 l4 I L G D S = some 1 → AtJ E xL_law Zlaw (601024, 7293034) 200 360 [(0, .ref (E.2.2.2 103)), (1, .ref (E.1 + 0)), (2, .ref (E.1 + 66)), (3, .ref (E.1 + 136)), (4, .int l4)] [] I L G D S := by
  intro l4 I L G D S hL h3 h
  unfold fL_law_360 at h
  refine j_aload_n 361 dL_law_360 rfl rfl 1 rfl ?_
  refine j_aload_n 362 dL_law_361 rfl rfl 0 rfl ?_
  refine j_iload 364 dL_law_362 rfl 4 rfl ?_
  refine j_iconst (v := (1 : Int32)) 365 dL_law_364 rfl (by decide) ?_
  refine j_iadd 366 dL_law_365 rfl ?_
  obtain ⟨hg, h⟩ := j_gs h
  refine j_sld 367 dL_law_366 rfl (j_inv hg) ?_
  refine j_aload_n 368 dL_law_367 rfl rfl 0 rfl ?_
  refine j_iload 370 dL_law_368 rfl 4 rfl ?_
  refine j_iconst (v := (2 : Int32)) 371 dL_law_370 rfl (by decide) ?_
  refine j_iadd 372 dL_law_371 rfl ?_
  obtain ⟨hg, h⟩ := j_gs h
  refine j_sld 373 dL_law_372 rfl (j_inv hg) ?_
  refine j_aload_n 374 dL_law_373 rfl rfl 0 rfl ?_
  refine j_iload 376 dL_law_374 rfl 4 rfl ?_
  refine j_iconst (v := (3 : Int32)) 377 dL_law_376 rfl (by decide) ?_
  refine j_iadd 378 dL_law_377 rfl ?_
  obtain ⟨hg, h⟩ := j_gs h
  refine j_sld 379 dL_law_378 rfl (j_inv hg) ?_
  obtain ⟨q9, hq9, h⟩ := j_bs h
  refine j_callV (rest := []) (As := [.int (nI (E.2.2.2 (1000 + (l4 + (1 : Int32)).toNatClampNeg))), .int (nI (E.2.2.2 (1000 + (l4 + (2 : Int32)).toNatClampNeg))), .int (nI (E.2.2.2 (1000 + (l4 + (3 : Int32)).toNatClampNeg)))]) 382 dL_law_379 rfl jyX11_kin (tcX11_kin hL  hq9) (sh_0 hL) cl11 flL_38 wm689 wm690 (by decide) rfl rfl (Nat.le_of_ble_eq_true rfl) ?_
  refine j_aload_n 383 dL_law_382 rfl rfl 2 rfl ?_
  refine j_aload_n 384 dL_law_383 rfl rfl 0 rfl ?_
  refine j_iload 386 dL_law_384 rfl 4 rfl ?_
  refine j_iconst (v := (1 : Int32)) 387 dL_law_386 rfl (by decide) ?_
  refine j_iadd 388 dL_law_387 rfl ?_
  obtain ⟨hg, h⟩ := j_gs h
  refine j_sld 389 dL_law_388 rfl (j_inv hg) ?_
  refine j_aload_n 390 dL_law_389 rfl rfl 0 rfl ?_
  refine j_iload 392 dL_law_390 rfl 4 rfl ?_
  refine j_iconst (v := (2 : Int32)) 393 dL_law_392 rfl (by decide) ?_
  refine j_iadd 394 dL_law_393 rfl ?_
  obtain ⟨hg, h⟩ := j_gs h
  refine j_sld 395 dL_law_394 rfl (j_inv hg) ?_
  refine j_aload_n 396 dL_law_395 rfl rfl 0 rfl ?_
  refine j_iload 398 dL_law_396 rfl 4 rfl ?_
  refine j_iconst (v := (3 : Int32)) 399 dL_law_398 rfl (by decide) ?_
  refine j_iadd 400 dL_law_399 rfl ?_
  obtain ⟨hg, h⟩ := j_gs h
  refine j_sld 401 dL_law_400 rfl (j_inv hg) ?_
  obtain ⟨q10, hq10, h⟩ := j_bs h
  refine j_callV (rest := [.int q9.1]) (As := [.int (nI (E.2.2.2 (1000 + (l4 + (1 : Int32)).toNatClampNeg))), .int (nI (E.2.2.2 (1000 + (l4 + (2 : Int32)).toNatClampNeg))), .int (nI (E.2.2.2 (1000 + (l4 + (3 : Int32)).toNatClampNeg)))]) 404 dL_law_401 rfl jyX12_kin (tcX12_kin hL  hq10) (sh_66 hL) cl12 flL_41 wm1723 wm1724 (by decide) rfl rfl (Nat.le_of_ble_eq_true rfl) ?_
  refine j_icmp_eq 1823 407 dL_law_404 (by decide) rfl (fun hc => ?_) (fun hc => ?_)
  · replace h := j_pos hc h
    refine j_iinc (v := (l4 + (8 : Int32))) (lv' := [(4, .int (l4 + (8 : Int32))), (0, .ref (E.2.2.2 103)), (1, .ref (E.1 + 0)), (2, .ref (E.1 + 66)), (3, .ref (E.1 + 136))]) (q := 4) 1826 dL_law_1823 rfl rfl rfl (by decide) rfl ?_
    refine j_goto 23 dL_law_1826 (by decide) ?_
    refine j_sub [1, 2, 3, 4, 0] rfl ?_
    exact H23 _ _ _ _ _ _ hL h3 h
  · replace h := j_neg hc h
    refine j_iconst (v := (0 : Int32)) 408 dL_law_407 rfl (by decide) ?_
    exact absurd (Option.some.inj h) (by decide)
def fL_law_430 (e : Nat → Nat) (k23 : Int32 → JI → JL → JG → JG → JS → Option Int32) (l4 : Int32) (s0 : Int32) (s1 : Int32) (I : JI) (L : JL) (G : JG) (D : JG) (S : JS) : Option Int32 :=
  (fX11_need s1 s0 I).bind (fun q56 => j_g (j_in (l4 + (1 : Int32)) (e 104)) (j_g (j_in (l4 + (2 : Int32)) (e 104)) (if (nI (e (1000 + (l4 + (2 : Int32)).toNatClampNeg))) = 0 then ((fX12_need (nI (e (1000 + (l4 + (1 : Int32)).toNatClampNeg))) (0 : Int32) q56.2).bind (fun q57 => if q56.1 = q57.1 then (k23 (l4 + (8 : Int32)) q57.2 L G D S) else (some (0 : Int32)))) else ((fX12_need (nI (e (1000 + (l4 + (1 : Int32)).toNatClampNeg))) (1 : Int32) q56.2).bind (fun q58 => if q56.1 = q58.1 then (k23 (l4 + (8 : Int32)) q58.2 L G D S) else (some (0 : Int32)))))))
set_option maxHeartbeats 4000000 in
set_option maxRecDepth 100000 in
theorem kL_law_430 {E : JE} {k23 : Int32 → JI → JL → JG → JG → JS → Option Int32} (H23 : ∀ (l4 : Int32) (I : JI) (L : JL) (G : JG) (D : JG) (S : JS), Lay G S → S[136]? = some (23, 1) → k23 l4 I L G D S = some 1 → AtJ E xL_law Zlaw (601024, 7293034) 200 23 [(0, .ref (E.2.2.2 103)), (1, .ref (E.1 + 0)), (2, .ref (E.1 + 66)), (3, .ref (E.1 + 136)), (4, .int l4)] [] I L G D S) : ∀ (l4 : Int32) (s0 : Int32) (s1 : Int32) (I : JI) (L : JL) (G : JG) (D : JG) (S : JS), Lay G S → S[136]? = some (23, 1) → fL_law_430 E.2.2.2 k23 l4 s0 s1 I L G D S = some 1 → AtJ E xL_law Zlaw (601024, 7293034) 200 430 [(0, .ref (E.2.2.2 103)), (1, .ref (E.1 + 0)), (2, .ref (E.1 + 66)), (3, .ref (E.1 + 136)), (4, .int l4)] [.int s0, .int s1, .ref (E.1 + 0)] I L G D S := by
  intro l4 s0 s1 I L G D S hL h3 h
  unfold fL_law_430 at h
  obtain ⟨q56, hq56, h⟩ := j_bs h
  refine j_callV (rest := []) (As := [.int s1, .int s0]) 433 dL_law_430 rfl jyX11_need (tcX11_need hL  hq56) (sh_0 hL) cl11 flL_42 wm698 wm699 (by decide) rfl rfl (Nat.le_of_ble_eq_true rfl) ?_
  refine j_aload_n 434 dL_law_433 rfl rfl 2 rfl ?_
  refine j_aload_n 435 dL_law_434 rfl rfl 0 rfl ?_
  refine j_iload 437 dL_law_435 rfl 4 rfl ?_
  refine j_iconst (v := (1 : Int32)) 438 dL_law_437 rfl (by decide) ?_
  refine j_iadd 439 dL_law_438 rfl ?_
  obtain ⟨hg, h⟩ := j_gs h
  refine j_sld 440 dL_law_439 rfl (j_inv hg) ?_
  refine j_aload_n 441 dL_law_440 rfl rfl 0 rfl ?_
  refine j_iload 443 dL_law_441 rfl 4 rfl ?_
  refine j_iconst (v := (2 : Int32)) 444 dL_law_443 rfl (by decide) ?_
  refine j_iadd 445 dL_law_444 rfl ?_
  obtain ⟨hg, h⟩ := j_gs h
  refine j_sld 446 dL_law_445 rfl (j_inv hg) ?_
  refine j_if_eq 453 449 dL_law_446 (by decide) rfl (fun hc => ?_) (fun hc => ?_)
  · replace h := j_pos hc h
    refine j_iconst (v := (0 : Int32)) 454 dL_law_453 rfl (by decide) ?_
    obtain ⟨q57, hq57, h⟩ := j_bs h
    refine j_callV (rest := [.int q56.1]) (As := [.int (nI (E.2.2.2 (1000 + (l4 + (1 : Int32)).toNatClampNeg))), .int (0 : Int32)]) 457 dL_law_454 rfl jyX12_need (tcX12_need hL  hq57) (sh_66 hL) cl12 flL_46 wm1727 wm1728 (by decide) rfl rfl (Nat.le_of_ble_eq_true rfl) ?_
    refine j_icmp_eq 1823 460 dL_law_457 (by decide) rfl (fun hc => ?_) (fun hc => ?_)
    · replace h := j_pos hc h
      refine j_iinc (v := (l4 + (8 : Int32))) (lv' := [(4, .int (l4 + (8 : Int32))), (0, .ref (E.2.2.2 103)), (1, .ref (E.1 + 0)), (2, .ref (E.1 + 66)), (3, .ref (E.1 + 136))]) (q := 4) 1826 dL_law_1823 rfl rfl rfl (by decide) rfl ?_
      refine j_goto 23 dL_law_1826 (by decide) ?_
      refine j_sub [1, 2, 3, 4, 0] rfl ?_
      exact H23 _ _ _ _ _ _ hL h3 h
    · replace h := j_neg hc h
      refine j_iconst (v := (0 : Int32)) 461 dL_law_460 rfl (by decide) ?_
      exact absurd (Option.some.inj h) (by decide)
  · replace h := j_neg hc h
    refine j_iconst (v := (1 : Int32)) 450 dL_law_449 rfl (by decide) ?_
    refine j_goto 454 dL_law_450 (by decide) ?_
    obtain ⟨q58, hq58, h⟩ := j_bs h
    refine j_callV (rest := [.int q56.1]) (As := [.int (nI (E.2.2.2 (1000 + (l4 + (1 : Int32)).toNatClampNeg))), .int (1 : Int32)]) 457 dL_law_454 rfl jyX12_need (tcX12_need hL  hq58) (sh_66 hL) cl12 flL_46 wm1727 wm1728 (by decide) rfl rfl (Nat.le_of_ble_eq_true rfl) ?_
    refine j_icmp_eq 1823 460 dL_law_457 (by decide) rfl (fun hc => ?_) (fun hc => ?_)
    · replace h := j_pos hc h
      refine j_iinc (v := (l4 + (8 : Int32))) (lv' := [(4, .int (l4 + (8 : Int32))), (0, .ref (E.2.2.2 103)), (1, .ref (E.1 + 0)), (2, .ref (E.1 + 66)), (3, .ref (E.1 + 136))]) (q := 4) 1826 dL_law_1823 rfl rfl rfl (by decide) rfl ?_
      refine j_goto 23 dL_law_1826 (by decide) ?_
      refine j_sub [1, 2, 3, 4, 0] rfl ?_
      exact H23 _ _ _ _ _ _ hL h3 h
    · replace h := j_neg hc h
      refine j_iconst (v := (0 : Int32)) 461 dL_law_460 rfl (by decide) ?_
      exact absurd (Option.some.inj h) (by decide)
def fL_law_409 (e : Nat → Nat) (k23 : Int32 → JI → JL → JG → JG → JS → Option Int32) (l4 : Int32) (I : JI) (L : JL) (G : JG) (D : JG) (S : JS) : Option Int32 :=
  j_g (j_in (l4 + (1 : Int32)) (e 104)) (j_g (j_in (l4 + (2 : Int32)) (e 104)) (if (nI (e (1000 + (l4 + (2 : Int32)).toNatClampNeg))) = 0 then (fL_law_430 e k23 l4 (0 : Int32) (nI (e (1000 + (l4 + (1 : Int32)).toNatClampNeg))) I L G D S) else (fL_law_430 e k23 l4 (1 : Int32) (nI (e (1000 + (l4 + (1 : Int32)).toNatClampNeg))) I L G D S)))
set_option maxHeartbeats 4000000 in
set_option maxRecDepth 100000 in
theorem kL_law_409 {E : JE} {k23 : Int32 → JI → JL → JG → JG → JS → Option Int32} (H23 : ∀ (l4 : Int32) (I : JI) (L : JL) (G : JG) (D : JG) (S : JS), Lay G S → S[136]? = some (23, 1) → k23 l4 I L G D S = some 1 → AtJ E xL_law Zlaw (601024, 7293034) 200 23 [(0, .ref (E.2.2.2 103)), (1, .ref (E.1 + 0)), (2, .ref (E.1 + 66)), (3, .ref (E.1 + 136)), (4, .int l4)] [] I L G D S) : ∀ (l4 : Int32) (I : JI) (L : JL) (G : JG) (D : JG) (S : JS), Lay G S → S[136]? = some (23, 1) → fL_law_409 E.2.2.2 k23 l4 I L G D S = some 1 → AtJ E xL_law Zlaw (601024, 7293034) 200 409 [(0, .ref (E.2.2.2 103)), (1, .ref (E.1 + 0)), (2, .ref (E.1 + 66)), (3, .ref (E.1 + 136)), (4, .int l4)] [] I L G D S := by
  intro l4 I L G D S hL h3 h
  unfold fL_law_409 at h
  refine j_aload_n 410 dL_law_409 rfl rfl 1 rfl ?_
  refine j_aload_n 411 dL_law_410 rfl rfl 0 rfl ?_
  refine j_iload 413 dL_law_411 rfl 4 rfl ?_
  refine j_iconst (v := (1 : Int32)) 414 dL_law_413 rfl (by decide) ?_
  refine j_iadd 415 dL_law_414 rfl ?_
  obtain ⟨hg, h⟩ := j_gs h
  refine j_sld 416 dL_law_415 rfl (j_inv hg) ?_
  refine j_aload_n 417 dL_law_416 rfl rfl 0 rfl ?_
  refine j_iload 419 dL_law_417 rfl 4 rfl ?_
  refine j_iconst (v := (2 : Int32)) 420 dL_law_419 rfl (by decide) ?_
  refine j_iadd 421 dL_law_420 rfl ?_
  obtain ⟨hg, h⟩ := j_gs h
  refine j_sld 422 dL_law_421 rfl (j_inv hg) ?_
  refine j_if_eq 429 425 dL_law_422 (by decide) rfl (fun hc => ?_) (fun hc => ?_)
  · replace h := j_pos hc h
    refine j_iconst (v := (0 : Int32)) 430 dL_law_429 rfl (by decide) ?_
    exact kL_law_430    H23 _ _ _ _ _ _ _ _ hL h3 h
  · replace h := j_neg hc h
    refine j_iconst (v := (1 : Int32)) 426 dL_law_425 rfl (by decide) ?_
    refine j_goto 430 dL_law_426 (by decide) ?_
    exact kL_law_430    H23 _ _ _ _ _ _ _ _ hL h3 h
def fL_law_483 (e : Nat → Nat) (k23 : Int32 → JI → JL → JG → JG → JS → Option Int32) (l4 : Int32) (s0 : Int32) (s1 : Int32) (I : JI) (L : JL) (G : JG) (D : JG) (S : JS) : Option Int32 :=
  (fX11_care s1 s0 I).bind (fun q59 => j_g (j_in (l4 + (1 : Int32)) (e 104)) (j_g (j_in (l4 + (2 : Int32)) (e 104)) (if (nI (e (1000 + (l4 + (2 : Int32)).toNatClampNeg))) = 0 then ((fX12_care (nI (e (1000 + (l4 + (1 : Int32)).toNatClampNeg))) (0 : Int32) q59.2).bind (fun q60 => if q59.1 = q60.1 then (k23 (l4 + (8 : Int32)) q60.2 L G D S) else (some (0 : Int32)))) else ((fX12_care (nI (e (1000 + (l4 + (1 : Int32)).toNatClampNeg))) (1 : Int32) q59.2).bind (fun q61 => if q59.1 = q61.1 then (k23 (l4 + (8 : Int32)) q61.2 L G D S) else (some (0 : Int32)))))))
set_option maxHeartbeats 4000000 in
set_option maxRecDepth 100000 in
theorem kL_law_483 {E : JE} {k23 : Int32 → JI → JL → JG → JG → JS → Option Int32} (H23 : ∀ (l4 : Int32) (I : JI) (L : JL) (G : JG) (D : JG) (S : JS), Lay G S → S[136]? = some (23, 1) → k23 l4 I L G D S = some 1 → AtJ E xL_law Zlaw (601024, 7293034) 200 23 [(0, .ref (E.2.2.2 103)), (1, .ref (E.1 + 0)), (2, .ref (E.1 + 66)), (3, .ref (E.1 + 136)), (4, .int l4)] [] I L G D S) : ∀ (l4 : Int32) (s0 : Int32) (s1 : Int32) (I : JI) (L : JL) (G : JG) (D : JG) (S : JS), Lay G S → S[136]? = some (23, 1) → fL_law_483 E.2.2.2 k23 l4 s0 s1 I L G D S = some 1 → AtJ E xL_law Zlaw (601024, 7293034) 200 483 [(0, .ref (E.2.2.2 103)), (1, .ref (E.1 + 0)), (2, .ref (E.1 + 66)), (3, .ref (E.1 + 136)), (4, .int l4)] [.int s0, .int s1, .ref (E.1 + 0)] I L G D S := by
  intro l4 s0 s1 I L G D S hL h3 h
  unfold fL_law_483 at h
  obtain ⟨q59, hq59, h⟩ := j_bs h
  refine j_callV (rest := []) (As := [.int s1, .int s0]) 486 dL_law_483 rfl jyX11_care (tcX11_care hL  hq59) (sh_0 hL) cl11 flL_47 wm703 wm704 (by decide) rfl rfl (Nat.le_of_ble_eq_true rfl) ?_
  refine j_aload_n 487 dL_law_486 rfl rfl 2 rfl ?_
  refine j_aload_n 488 dL_law_487 rfl rfl 0 rfl ?_
  refine j_iload 490 dL_law_488 rfl 4 rfl ?_
  refine j_iconst (v := (1 : Int32)) 491 dL_law_490 rfl (by decide) ?_
  refine j_iadd 492 dL_law_491 rfl ?_
  obtain ⟨hg, h⟩ := j_gs h
  refine j_sld 493 dL_law_492 rfl (j_inv hg) ?_
  refine j_aload_n 494 dL_law_493 rfl rfl 0 rfl ?_
  refine j_iload 496 dL_law_494 rfl 4 rfl ?_
  refine j_iconst (v := (2 : Int32)) 497 dL_law_496 rfl (by decide) ?_
  refine j_iadd 498 dL_law_497 rfl ?_
  obtain ⟨hg, h⟩ := j_gs h
  refine j_sld 499 dL_law_498 rfl (j_inv hg) ?_
  refine j_if_eq 506 502 dL_law_499 (by decide) rfl (fun hc => ?_) (fun hc => ?_)
  · replace h := j_pos hc h
    refine j_iconst (v := (0 : Int32)) 507 dL_law_506 rfl (by decide) ?_
    obtain ⟨q60, hq60, h⟩ := j_bs h
    refine j_callV (rest := [.int q59.1]) (As := [.int (nI (E.2.2.2 (1000 + (l4 + (1 : Int32)).toNatClampNeg))), .int (0 : Int32)]) 510 dL_law_507 rfl jyX12_care (tcX12_care hL  hq60) (sh_66 hL) cl12 flL_50 wm1731 wm1732 (by decide) rfl rfl (Nat.le_of_ble_eq_true rfl) ?_
    refine j_icmp_eq 1823 513 dL_law_510 (by decide) rfl (fun hc => ?_) (fun hc => ?_)
    · replace h := j_pos hc h
      refine j_iinc (v := (l4 + (8 : Int32))) (lv' := [(4, .int (l4 + (8 : Int32))), (0, .ref (E.2.2.2 103)), (1, .ref (E.1 + 0)), (2, .ref (E.1 + 66)), (3, .ref (E.1 + 136))]) (q := 4) 1826 dL_law_1823 rfl rfl rfl (by decide) rfl ?_
      refine j_goto 23 dL_law_1826 (by decide) ?_
      refine j_sub [1, 2, 3, 4, 0] rfl ?_
      exact H23 _ _ _ _ _ _ hL h3 h
    · replace h := j_neg hc h
      refine j_iconst (v := (0 : Int32)) 514 dL_law_513 rfl (by decide) ?_
      exact absurd (Option.some.inj h) (by decide)
  · replace h := j_neg hc h
    refine j_iconst (v := (1 : Int32)) 503 dL_law_502 rfl (by decide) ?_
    refine j_goto 507 dL_law_503 (by decide) ?_
    obtain ⟨q61, hq61, h⟩ := j_bs h
    refine j_callV (rest := [.int q59.1]) (As := [.int (nI (E.2.2.2 (1000 + (l4 + (1 : Int32)).toNatClampNeg))), .int (1 : Int32)]) 510 dL_law_507 rfl jyX12_care (tcX12_care hL  hq61) (sh_66 hL) cl12 flL_50 wm1731 wm1732 (by decide) rfl rfl (Nat.le_of_ble_eq_true rfl) ?_
    refine j_icmp_eq 1823 513 dL_law_510 (by decide) rfl (fun hc => ?_) (fun hc => ?_)
    · replace h := j_pos hc h
      refine j_iinc (v := (l4 + (8 : Int32))) (lv' := [(4, .int (l4 + (8 : Int32))), (0, .ref (E.2.2.2 103)), (1, .ref (E.1 + 0)), (2, .ref (E.1 + 66)), (3, .ref (E.1 + 136))]) (q := 4) 1826 dL_law_1823 rfl rfl rfl (by decide) rfl ?_
      refine j_goto 23 dL_law_1826 (by decide) ?_
      refine j_sub [1, 2, 3, 4, 0] rfl ?_
      exact H23 _ _ _ _ _ _ hL h3 h
    · replace h := j_neg hc h
      refine j_iconst (v := (0 : Int32)) 514 dL_law_513 rfl (by decide) ?_
      exact absurd (Option.some.inj h) (by decide)
def fL_law_462 (e : Nat → Nat) (k23 : Int32 → JI → JL → JG → JG → JS → Option Int32) (l4 : Int32) (I : JI) (L : JL) (G : JG) (D : JG) (S : JS) : Option Int32 :=
  j_g (j_in (l4 + (1 : Int32)) (e 104)) (j_g (j_in (l4 + (2 : Int32)) (e 104)) (if (nI (e (1000 + (l4 + (2 : Int32)).toNatClampNeg))) = 0 then (fL_law_483 e k23 l4 (0 : Int32) (nI (e (1000 + (l4 + (1 : Int32)).toNatClampNeg))) I L G D S) else (fL_law_483 e k23 l4 (1 : Int32) (nI (e (1000 + (l4 + (1 : Int32)).toNatClampNeg))) I L G D S)))
set_option maxHeartbeats 4000000 in
set_option maxRecDepth 100000 in
theorem kL_law_462 {E : JE} {k23 : Int32 → JI → JL → JG → JG → JS → Option Int32} (H23 : ∀ (l4 : Int32) (I : JI) (L : JL) (G : JG) (D : JG) (S : JS), Lay G S → S[136]? = some (23, 1) → k23 l4 I L G D S = some 1 → AtJ E xL_law Zlaw (601024, 7293034) 200 23 [(0, .ref (E.2.2.2 103)), (1, .ref (E.1 + 0)), (2, .ref (E.1 + 66)), (3, .ref (E.1 + 136)), (4, .int l4)] [] I L G D S) : ∀ (l4 : Int32) (I : JI) (L : JL) (G : JG) (D : JG) (S : JS), Lay G S → S[136]? = some (23, 1) → fL_law_462 E.2.2.2 k23 l4 I L G D S = some 1 → AtJ E xL_law Zlaw (601024, 7293034) 200 462 [(0, .ref (E.2.2.2 103)), (1, .ref (E.1 + 0)), (2, .ref (E.1 + 66)), (3, .ref (E.1 + 136)), (4, .int l4)] [] I L G D S := by
  intro l4 I L G D S hL h3 h
  unfold fL_law_462 at h
  refine j_aload_n 463 dL_law_462 rfl rfl 1 rfl ?_
  refine j_aload_n 464 dL_law_463 rfl rfl 0 rfl ?_
  refine j_iload 466 dL_law_464 rfl 4 rfl ?_
  refine j_iconst (v := (1 : Int32)) 467 dL_law_466 rfl (by decide) ?_
  refine j_iadd 468 dL_law_467 rfl ?_
  obtain ⟨hg, h⟩ := j_gs h
  refine j_sld 469 dL_law_468 rfl (j_inv hg) ?_
  refine j_aload_n 470 dL_law_469 rfl rfl 0 rfl ?_
  refine j_iload 472 dL_law_470 rfl 4 rfl ?_
  refine j_iconst (v := (2 : Int32)) 473 dL_law_472 rfl (by decide) ?_
  refine j_iadd 474 dL_law_473 rfl ?_
  obtain ⟨hg, h⟩ := j_gs h
  refine j_sld 475 dL_law_474 rfl (j_inv hg) ?_
  refine j_if_eq 482 478 dL_law_475 (by decide) rfl (fun hc => ?_) (fun hc => ?_)
  · replace h := j_pos hc h
    refine j_iconst (v := (0 : Int32)) 483 dL_law_482 rfl (by decide) ?_
    exact kL_law_483    H23 _ _ _ _ _ _ _ _ hL h3 h
  · replace h := j_neg hc h
    refine j_iconst (v := (1 : Int32)) 479 dL_law_478 rfl (by decide) ?_
    refine j_goto 483 dL_law_479 (by decide) ?_
    exact kL_law_483    H23 _ _ _ _ _ _ _ _ hL h3 h
def fL_law_515 (e : Nat → Nat) (k23 : Int32 → JI → JL → JG → JG → JS → Option Int32) (l4 : Int32) (I : JI) (L : JL) (G : JG) (D : JG) (S : JS) : Option Int32 :=
  j_g (j_in (l4 + (1 : Int32)) (e 104)) ((fX11_days (nI (e (1000 + (l4 + (1 : Int32)).toNatClampNeg))) I).bind (fun q11 => j_g (j_in (l4 + (1 : Int32)) (e 104)) ((fX12_days (nI (e (1000 + (l4 + (1 : Int32)).toNatClampNeg))) q11.2).bind (fun q12 => if q11.1 = q12.1 then (k23 (l4 + (8 : Int32)) q12.2 L G D S) else (some (0 : Int32))))))
set_option maxHeartbeats 4000000 in
set_option maxRecDepth 100000 in
theorem kL_law_515 {E : JE} {k23 : Int32 → JI → JL → JG → JG → JS → Option Int32} (H23 : ∀ (l4 : Int32) (I : JI) (L : JL) (G : JG) (D : JG) (S : JS), Lay G S → S[136]? = some (23, 1) → k23 l4 I L G D S = some 1 → AtJ E xL_law Zlaw (601024, 7293034) 200 23 [(0, .ref (E.2.2.2 103)), (1, .ref (E.1 + 0)), (2, .ref (E.1 + 66)), (3, .ref (E.1 + 136)), (4, .int l4)] [] I L G D S) : ∀ (l4 : Int32) (I : JI) (L : JL) (G : JG) (D : JG) (S : JS), Lay G S → S[136]? = some (23, 1) → fL_law_515 E.2.2.2 k23 l4 I L G D S = some 1 → AtJ E xL_law Zlaw (601024, 7293034) 200 515 [(0, .ref (E.2.2.2 103)), (1, .ref (E.1 + 0)), (2, .ref (E.1 + 66)), (3, .ref (E.1 + 136)), (4, .int l4)] [] I L G D S := by
  intro l4 I L G D S hL h3 h
  unfold fL_law_515 at h
  refine j_aload_n 516 dL_law_515 rfl rfl 1 rfl ?_
  refine j_aload_n 517 dL_law_516 rfl rfl 0 rfl ?_
  refine j_iload 519 dL_law_517 rfl 4 rfl ?_
  refine j_iconst (v := (1 : Int32)) 520 dL_law_519 rfl (by decide) ?_
  refine j_iadd 521 dL_law_520 rfl ?_
  obtain ⟨hg, h⟩ := j_gs h
  refine j_sld 522 dL_law_521 rfl (j_inv hg) ?_
  obtain ⟨q11, hq11, h⟩ := j_bs h
  refine j_callV (rest := []) (As := [.int (nI (E.2.2.2 (1000 + (l4 + (1 : Int32)).toNatClampNeg)))]) 525 dL_law_522 rfl jyX11_days (tcX11_days hL  hq11) (sh_0 hL) cl11 flL_51 wm707 wm708 (by decide) rfl rfl (Nat.le_of_ble_eq_true rfl) ?_
  refine j_aload_n 526 dL_law_525 rfl rfl 2 rfl ?_
  refine j_aload_n 527 dL_law_526 rfl rfl 0 rfl ?_
  refine j_iload 529 dL_law_527 rfl 4 rfl ?_
  refine j_iconst (v := (1 : Int32)) 530 dL_law_529 rfl (by decide) ?_
  refine j_iadd 531 dL_law_530 rfl ?_
  obtain ⟨hg, h⟩ := j_gs h
  refine j_sld 532 dL_law_531 rfl (j_inv hg) ?_
  obtain ⟨q12, hq12, h⟩ := j_bs h
  refine j_callV (rest := [.int q11.1]) (As := [.int (nI (E.2.2.2 (1000 + (l4 + (1 : Int32)).toNatClampNeg)))]) 535 dL_law_532 rfl jyX12_days (tcX12_days hL  hq12) (sh_66 hL) cl12 flL_55 wm1735 wm1736 (by decide) rfl rfl (Nat.le_of_ble_eq_true rfl) ?_
  refine j_icmp_eq 1823 538 dL_law_535 (by decide) rfl (fun hc => ?_) (fun hc => ?_)
  · replace h := j_pos hc h
    refine j_iinc (v := (l4 + (8 : Int32))) (lv' := [(4, .int (l4 + (8 : Int32))), (0, .ref (E.2.2.2 103)), (1, .ref (E.1 + 0)), (2, .ref (E.1 + 66)), (3, .ref (E.1 + 136))]) (q := 4) 1826 dL_law_1823 rfl rfl rfl (by decide) rfl ?_
    refine j_goto 23 dL_law_1826 (by decide) ?_
    refine j_sub [1, 2, 3, 4, 0] rfl ?_
    exact H23 _ _ _ _ _ _ hL h3 h
  · replace h := j_neg hc h
    refine j_iconst (v := (0 : Int32)) 539 dL_law_538 rfl (by decide) ?_
    exact absurd (Option.some.inj h) (by decide)
def fL_law_540 (e : Nat → Nat) (k23 : Int32 → JI → JL → JG → JG → JS → Option Int32) (l4 : Int32) (I : JI) (L : JL) (G : JG) (D : JG) (S : JS) : Option Int32 :=
  j_g (j_in (l4 + (1 : Int32)) (e 104)) (j_g (j_in (l4 + (2 : Int32)) (e 104)) (j_g (j_in (l4 + (3 : Int32)) (e 104)) (j_g (j_in (l4 + (4 : Int32)) (e 104)) (j_g (j_in (l4 + (5 : Int32)) (e 104)) (j_g (j_in (l4 + (6 : Int32)) (e 104)) ((fX11_feed (((nI (e (1000 + (l4 + (1 : Int32)).toNatClampNeg))).toInt64 <<< ((32 : Int32).toInt64 &&& 63)) ||| ((nI (e (1000 + (l4 + (2 : Int32)).toNatClampNeg))).toInt64 &&& (4294967295 : Int64))) (((nI (e (1000 + (l4 + (3 : Int32)).toNatClampNeg))).toInt64 <<< ((32 : Int32).toInt64 &&& 63)) ||| ((nI (e (1000 + (l4 + (4 : Int32)).toNatClampNeg))).toInt64 &&& (4294967295 : Int64))) (((nI (e (1000 + (l4 + (5 : Int32)).toNatClampNeg))).toInt64 <<< ((32 : Int32).toInt64 &&& 63)) ||| ((nI (e (1000 + (l4 + (6 : Int32)).toNatClampNeg))).toInt64 &&& (4294967295 : Int64))) I).bind (fun q13 => j_g (j_in (l4 + (1 : Int32)) (e 104)) (j_g (j_in (l4 + (2 : Int32)) (e 104)) (j_g (j_in (l4 + (3 : Int32)) (e 104)) (j_g (j_in (l4 + (4 : Int32)) (e 104)) (j_g (j_in (l4 + (5 : Int32)) (e 104)) (j_g (j_in (l4 + (6 : Int32)) (e 104)) ((fX12_feed (((nI (e (1000 + (l4 + (1 : Int32)).toNatClampNeg))).toInt64 <<< ((32 : Int32).toInt64 &&& 63)) ||| ((nI (e (1000 + (l4 + (2 : Int32)).toNatClampNeg))).toInt64 &&& (4294967295 : Int64))) (((nI (e (1000 + (l4 + (3 : Int32)).toNatClampNeg))).toInt64 <<< ((32 : Int32).toInt64 &&& 63)) ||| ((nI (e (1000 + (l4 + (4 : Int32)).toNatClampNeg))).toInt64 &&& (4294967295 : Int64))) (((nI (e (1000 + (l4 + (5 : Int32)).toNatClampNeg))).toInt64 <<< ((32 : Int32).toInt64 &&& 63)) ||| ((nI (e (1000 + (l4 + (6 : Int32)).toNatClampNeg))).toInt64 &&& (4294967295 : Int64))) q13.2).bind (fun q14 => if q13.1 = q14.1 then (k23 (l4 + (8 : Int32)) q14.2 L G D S) else (some (0 : Int32))))))))))))))))
set_option maxHeartbeats 4000000 in
set_option maxRecDepth 100000 in
theorem kL_law_540 {E : JE} {k23 : Int32 → JI → JL → JG → JG → JS → Option Int32} (H23 : ∀ (l4 : Int32) (I : JI) (L : JL) (G : JG) (D : JG) (S : JS), Lay G S → S[136]? = some (23, 1) → k23 l4 I L G D S = some 1 → AtJ E xL_law Zlaw (601024, 7293034) 200 23 [(0, .ref (E.2.2.2 103)), (1, .ref (E.1 + 0)), (2, .ref (E.1 + 66)), (3, .ref (E.1 + 136)), (4, .int l4)] [] I L G D S) : ∀ (l4 : Int32) (I : JI) (L : JL) (G : JG) (D : JG) (S : JS), Lay G S → S[136]? = some (23, 1) → fL_law_540 E.2.2.2 k23 l4 I L G D S = some 1 → AtJ E xL_law Zlaw (601024, 7293034) 200 540 [(0, .ref (E.2.2.2 103)), (1, .ref (E.1 + 0)), (2, .ref (E.1 + 66)), (3, .ref (E.1 + 136)), (4, .int l4)] [] I L G D S := by
  intro l4 I L G D S hL h3 h
  unfold fL_law_540 at h
  refine j_aload_n 541 dL_law_540 rfl rfl 1 rfl ?_
  refine j_aload_n 542 dL_law_541 rfl rfl 0 rfl ?_
  refine j_iload 544 dL_law_542 rfl 4 rfl ?_
  refine j_iconst (v := (1 : Int32)) 545 dL_law_544 rfl (by decide) ?_
  refine j_iadd 546 dL_law_545 rfl ?_
  obtain ⟨hg, h⟩ := j_gs h
  refine j_sld 547 dL_law_546 rfl (j_inv hg) ?_
  refine j_i2l 548 dL_law_547 rfl ?_
  refine j_bipush (v := (32 : Int32)) 550 dL_law_548 rfl (by decide) ?_
  refine j_lshl 551 dL_law_550 rfl ?_
  refine j_aload_n 552 dL_law_551 rfl rfl 0 rfl ?_
  refine j_iload 554 dL_law_552 rfl 4 rfl ?_
  refine j_iconst (v := (2 : Int32)) 555 dL_law_554 rfl (by decide) ?_
  refine j_iadd 556 dL_law_555 rfl ?_
  obtain ⟨hg, h⟩ := j_gs h
  refine j_sld 557 dL_law_556 rfl (j_inv hg) ?_
  refine j_i2l 558 dL_law_557 rfl ?_
  refine j_ldc2 (v := (4294967295 : Int64)) 561 dL_law_558 rfl wm2043 ?_
  refine j_land 562 dL_law_561 rfl ?_
  refine j_lor 563 dL_law_562 rfl ?_
  refine j_aload_n 564 dL_law_563 rfl rfl 0 rfl ?_
  refine j_iload 566 dL_law_564 rfl 4 rfl ?_
  refine j_iconst (v := (3 : Int32)) 567 dL_law_566 rfl (by decide) ?_
  refine j_iadd 568 dL_law_567 rfl ?_
  obtain ⟨hg, h⟩ := j_gs h
  refine j_sld 569 dL_law_568 rfl (j_inv hg) ?_
  refine j_i2l 570 dL_law_569 rfl ?_
  refine j_bipush (v := (32 : Int32)) 572 dL_law_570 rfl (by decide) ?_
  refine j_lshl 573 dL_law_572 rfl ?_
  refine j_aload_n 574 dL_law_573 rfl rfl 0 rfl ?_
  refine j_iload 576 dL_law_574 rfl 4 rfl ?_
  refine j_iconst (v := (4 : Int32)) 577 dL_law_576 rfl (by decide) ?_
  refine j_iadd 578 dL_law_577 rfl ?_
  obtain ⟨hg, h⟩ := j_gs h
  refine j_sld 579 dL_law_578 rfl (j_inv hg) ?_
  refine j_i2l 580 dL_law_579 rfl ?_
  refine j_ldc2 (v := (4294967295 : Int64)) 583 dL_law_580 rfl wm2043 ?_
  refine j_land 584 dL_law_583 rfl ?_
  refine j_lor 585 dL_law_584 rfl ?_
  refine j_aload_n 586 dL_law_585 rfl rfl 0 rfl ?_
  refine j_iload 588 dL_law_586 rfl 4 rfl ?_
  refine j_iconst (v := (5 : Int32)) 589 dL_law_588 rfl (by decide) ?_
  refine j_iadd 590 dL_law_589 rfl ?_
  obtain ⟨hg, h⟩ := j_gs h
  refine j_sld 591 dL_law_590 rfl (j_inv hg) ?_
  refine j_i2l 592 dL_law_591 rfl ?_
  refine j_bipush (v := (32 : Int32)) 594 dL_law_592 rfl (by decide) ?_
  refine j_lshl 595 dL_law_594 rfl ?_
  refine j_aload_n 596 dL_law_595 rfl rfl 0 rfl ?_
  refine j_iload 598 dL_law_596 rfl 4 rfl ?_
  refine j_bipush (v := (6 : Int32)) 600 dL_law_598 rfl (by decide) ?_
  refine j_iadd 601 dL_law_600 rfl ?_
  obtain ⟨hg, h⟩ := j_gs h
  refine j_sld 602 dL_law_601 rfl (j_inv hg) ?_
  refine j_i2l 603 dL_law_602 rfl ?_
  refine j_ldc2 (v := (4294967295 : Int64)) 606 dL_law_603 rfl wm2043 ?_
  refine j_land 607 dL_law_606 rfl ?_
  refine j_lor 608 dL_law_607 rfl ?_
  obtain ⟨q13, hq13, h⟩ := j_bs h
  refine j_callV (rest := []) (As := [.long (((nI (E.2.2.2 (1000 + (l4 + (1 : Int32)).toNatClampNeg))).toInt64 <<< ((32 : Int32).toInt64 &&& 63)) ||| ((nI (E.2.2.2 (1000 + (l4 + (2 : Int32)).toNatClampNeg))).toInt64 &&& (4294967295 : Int64))), .long (((nI (E.2.2.2 (1000 + (l4 + (3 : Int32)).toNatClampNeg))).toInt64 <<< ((32 : Int32).toInt64 &&& 63)) ||| ((nI (E.2.2.2 (1000 + (l4 + (4 : Int32)).toNatClampNeg))).toInt64 &&& (4294967295 : Int64))), .long (((nI (E.2.2.2 (1000 + (l4 + (5 : Int32)).toNatClampNeg))).toInt64 <<< ((32 : Int32).toInt64 &&& 63)) ||| ((nI (E.2.2.2 (1000 + (l4 + (6 : Int32)).toNatClampNeg))).toInt64 &&& (4294967295 : Int64)))]) 611 dL_law_608 rfl jyX11_feed (tcX11_feed hL  hq13) (sh_0 hL) cl11 flL_58 wm711 wm712 (by decide) rfl rfl (Nat.le_of_ble_eq_true rfl) ?_
  refine j_aload_n 612 dL_law_611 rfl rfl 2 rfl ?_
  refine j_aload_n 613 dL_law_612 rfl rfl 0 rfl ?_
  refine j_iload 615 dL_law_613 rfl 4 rfl ?_
  refine j_iconst (v := (1 : Int32)) 616 dL_law_615 rfl (by decide) ?_
  refine j_iadd 617 dL_law_616 rfl ?_
  obtain ⟨hg, h⟩ := j_gs h
  refine j_sld 618 dL_law_617 rfl (j_inv hg) ?_
  refine j_i2l 619 dL_law_618 rfl ?_
  refine j_bipush (v := (32 : Int32)) 621 dL_law_619 rfl (by decide) ?_
  refine j_lshl 622 dL_law_621 rfl ?_
  refine j_aload_n 623 dL_law_622 rfl rfl 0 rfl ?_
  refine j_iload 625 dL_law_623 rfl 4 rfl ?_
  refine j_iconst (v := (2 : Int32)) 626 dL_law_625 rfl (by decide) ?_
  refine j_iadd 627 dL_law_626 rfl ?_
  obtain ⟨hg, h⟩ := j_gs h
  refine j_sld 628 dL_law_627 rfl (j_inv hg) ?_
  refine j_i2l 629 dL_law_628 rfl ?_
  refine j_ldc2 (v := (4294967295 : Int64)) 632 dL_law_629 rfl wm2043 ?_
  refine j_land 633 dL_law_632 rfl ?_
  refine j_lor 634 dL_law_633 rfl ?_
  refine j_aload_n 635 dL_law_634 rfl rfl 0 rfl ?_
  refine j_iload 637 dL_law_635 rfl 4 rfl ?_
  refine j_iconst (v := (3 : Int32)) 638 dL_law_637 rfl (by decide) ?_
  refine j_iadd 639 dL_law_638 rfl ?_
  obtain ⟨hg, h⟩ := j_gs h
  refine j_sld 640 dL_law_639 rfl (j_inv hg) ?_
  refine j_i2l 641 dL_law_640 rfl ?_
  refine j_bipush (v := (32 : Int32)) 643 dL_law_641 rfl (by decide) ?_
  refine j_lshl 644 dL_law_643 rfl ?_
  refine j_aload_n 645 dL_law_644 rfl rfl 0 rfl ?_
  refine j_iload 647 dL_law_645 rfl 4 rfl ?_
  refine j_iconst (v := (4 : Int32)) 648 dL_law_647 rfl (by decide) ?_
  refine j_iadd 649 dL_law_648 rfl ?_
  obtain ⟨hg, h⟩ := j_gs h
  refine j_sld 650 dL_law_649 rfl (j_inv hg) ?_
  refine j_i2l 651 dL_law_650 rfl ?_
  refine j_ldc2 (v := (4294967295 : Int64)) 654 dL_law_651 rfl wm2043 ?_
  refine j_land 655 dL_law_654 rfl ?_
  refine j_lor 656 dL_law_655 rfl ?_
  refine j_aload_n 657 dL_law_656 rfl rfl 0 rfl ?_
  refine j_iload 659 dL_law_657 rfl 4 rfl ?_
  refine j_iconst (v := (5 : Int32)) 660 dL_law_659 rfl (by decide) ?_
  refine j_iadd 661 dL_law_660 rfl ?_
  obtain ⟨hg, h⟩ := j_gs h
  refine j_sld 662 dL_law_661 rfl (j_inv hg) ?_
  refine j_i2l 663 dL_law_662 rfl ?_
  refine j_bipush (v := (32 : Int32)) 665 dL_law_663 rfl (by decide) ?_
  refine j_lshl 666 dL_law_665 rfl ?_
  refine j_aload_n 667 dL_law_666 rfl rfl 0 rfl ?_
  refine j_iload 669 dL_law_667 rfl 4 rfl ?_
  refine j_bipush (v := (6 : Int32)) 671 dL_law_669 rfl (by decide) ?_
  refine j_iadd 672 dL_law_671 rfl ?_
  obtain ⟨hg, h⟩ := j_gs h
  refine j_sld 673 dL_law_672 rfl (j_inv hg) ?_
  refine j_i2l 674 dL_law_673 rfl ?_
  refine j_ldc2 (v := (4294967295 : Int64)) 677 dL_law_674 rfl wm2043 ?_
  refine j_land 678 dL_law_677 rfl ?_
  refine j_lor 679 dL_law_678 rfl ?_
  obtain ⟨q14, hq14, h⟩ := j_bs h
  refine j_callV (rest := [.int q13.1]) (As := [.long (((nI (E.2.2.2 (1000 + (l4 + (1 : Int32)).toNatClampNeg))).toInt64 <<< ((32 : Int32).toInt64 &&& 63)) ||| ((nI (E.2.2.2 (1000 + (l4 + (2 : Int32)).toNatClampNeg))).toInt64 &&& (4294967295 : Int64))), .long (((nI (E.2.2.2 (1000 + (l4 + (3 : Int32)).toNatClampNeg))).toInt64 <<< ((32 : Int32).toInt64 &&& 63)) ||| ((nI (E.2.2.2 (1000 + (l4 + (4 : Int32)).toNatClampNeg))).toInt64 &&& (4294967295 : Int64))), .long (((nI (E.2.2.2 (1000 + (l4 + (5 : Int32)).toNatClampNeg))).toInt64 <<< ((32 : Int32).toInt64 &&& 63)) ||| ((nI (E.2.2.2 (1000 + (l4 + (6 : Int32)).toNatClampNeg))).toInt64 &&& (4294967295 : Int64)))]) 682 dL_law_679 rfl jyX12_feed (tcX12_feed hL  hq14) (sh_66 hL) cl12 flL_62 wm1755 wm1756 (by decide) rfl rfl (Nat.le_of_ble_eq_true rfl) ?_
  refine j_icmp_eq 1823 685 dL_law_682 (by decide) rfl (fun hc => ?_) (fun hc => ?_)
  · replace h := j_pos hc h
    refine j_iinc (v := (l4 + (8 : Int32))) (lv' := [(4, .int (l4 + (8 : Int32))), (0, .ref (E.2.2.2 103)), (1, .ref (E.1 + 0)), (2, .ref (E.1 + 66)), (3, .ref (E.1 + 136))]) (q := 4) 1826 dL_law_1823 rfl rfl rfl (by decide) rfl ?_
    refine j_goto 23 dL_law_1826 (by decide) ?_
    refine j_sub [1, 2, 3, 4, 0] rfl ?_
    exact H23 _ _ _ _ _ _ hL h3 h
  · replace h := j_neg hc h
    refine j_iconst (v := (0 : Int32)) 686 dL_law_685 rfl (by decide) ?_
    exact absurd (Option.some.inj h) (by decide)
def fL_law_687 (e : Nat → Nat) (k23 : Int32 → JI → JL → JG → JG → JS → Option Int32) (l4 : Int32) (I : JI) (L : JL) (G : JG) (D : JG) (S : JS) : Option Int32 :=
  (fX11_law I L D S).bind (fun q15 => (fX12_law q15.2.1 q15.2.2.1).bind (fun q16 => if q15.1 = q16.1 then (k23 (l4 + (8 : Int32)) q16.2.1 q16.2.2 G q15.2.2.2 S) else (some (0 : Int32))))
set_option maxHeartbeats 4000000 in
set_option maxRecDepth 100000 in
theorem kL_law_687 {E : JE} {k23 : Int32 → JI → JL → JG → JG → JS → Option Int32} (H23 : ∀ (l4 : Int32) (I : JI) (L : JL) (G : JG) (D : JG) (S : JS), Lay G S → S[136]? = some (23, 1) → k23 l4 I L G D S = some 1 → AtJ E xL_law Zlaw (601024, 7293034) 200 23 [(0, .ref (E.2.2.2 103)), (1, .ref (E.1 + 0)), (2, .ref (E.1 + 66)), (3, .ref (E.1 + 136)), (4, .int l4)] [] I L G D S) : ∀ (l4 : Int32) (I : JI) (L : JL) (G : JG) (D : JG) (S : JS), Lay G S → S[136]? = some (23, 1) → fL_law_687 E.2.2.2 k23 l4 I L G D S = some 1 → AtJ E xL_law Zlaw (601024, 7293034) 200 687 [(0, .ref (E.2.2.2 103)), (1, .ref (E.1 + 0)), (2, .ref (E.1 + 66)), (3, .ref (E.1 + 136)), (4, .int l4)] [] I L G D S := by
  intro l4 I L G D S hL h3 h
  unfold fL_law_687 at h
  refine j_aload_n 688 dL_law_687 rfl rfl 1 rfl ?_
  obtain ⟨q15, hq15, h⟩ := j_bs h
  refine j_callV (rest := []) (As := []) 691 dL_law_688 rfl jyX11_law (tcX11_law hL  hq15) (sh_0 hL) cl11 flL_63 wm719 wm720 (by decide) rfl rfl (Nat.le_of_ble_eq_true rfl) ?_
  refine j_aload_n 692 dL_law_691 rfl rfl 2 rfl ?_
  obtain ⟨q16, hq16, h⟩ := j_bs h
  refine j_callV (rest := [.int q15.1]) (As := []) 695 dL_law_692 rfl jyX12_law (tcX12_law hL  hq16) (sh_66 hL) cl12 flL_67 wm1760 wm1761 (by decide) rfl rfl (Nat.le_of_ble_eq_true rfl) ?_
  refine j_icmp_eq 1823 698 dL_law_695 (by decide) rfl (fun hc => ?_) (fun hc => ?_)
  · replace h := j_pos hc h
    refine j_iinc (v := (l4 + (8 : Int32))) (lv' := [(4, .int (l4 + (8 : Int32))), (0, .ref (E.2.2.2 103)), (1, .ref (E.1 + 0)), (2, .ref (E.1 + 66)), (3, .ref (E.1 + 136))]) (q := 4) 1826 dL_law_1823 rfl rfl rfl (by decide) rfl ?_
    refine j_goto 23 dL_law_1826 (by decide) ?_
    refine j_sub [1, 2, 3, 4, 0] rfl ?_
    exact H23 _ _ _ _ _ _ hL h3 h
  · replace h := j_neg hc h
    refine j_iconst (v := (0 : Int32)) 699 dL_law_698 rfl (by decide) ?_
    exact absurd (Option.some.inj h) (by decide)
def fL_law_700 (e : Nat → Nat) (k23 : Int32 → JI → JL → JG → JG → JS → Option Int32) (l4 : Int32) (I : JI) (L : JL) (G : JG) (D : JG) (S : JS) : Option Int32 :=
  j_g (j_in (l4 + (1 : Int32)) (e 104)) (j_g (j_in (l4 + (2 : Int32)) (e 104)) ((fX11_holds (nI (e (1000 + (l4 + (1 : Int32)).toNatClampNeg))) (nI (e (1000 + (l4 + (2 : Int32)).toNatClampNeg))) I).bind (fun q17 => j_g (j_in (l4 + (1 : Int32)) (e 104)) (j_g (j_in (l4 + (2 : Int32)) (e 104)) ((fX12_holds (nI (e (1000 + (l4 + (1 : Int32)).toNatClampNeg))) (nI (e (1000 + (l4 + (2 : Int32)).toNatClampNeg))) I).bind (fun q18 => if q17 = q18.1 then (k23 (l4 + (8 : Int32)) q18.2 L G D S) else (some (0 : Int32))))))))
set_option maxHeartbeats 4000000 in
set_option maxRecDepth 100000 in
theorem kL_law_700 {E : JE} {k23 : Int32 → JI → JL → JG → JG → JS → Option Int32} (H23 : ∀ (l4 : Int32) (I : JI) (L : JL) (G : JG) (D : JG) (S : JS), Lay G S → S[136]? = some (23, 1) → k23 l4 I L G D S = some 1 → AtJ E xL_law Zlaw (601024, 7293034) 200 23 [(0, .ref (E.2.2.2 103)), (1, .ref (E.1 + 0)), (2, .ref (E.1 + 66)), (3, .ref (E.1 + 136)), (4, .int l4)] [] I L G D S) : ∀ (l4 : Int32) (I : JI) (L : JL) (G : JG) (D : JG) (S : JS), Lay G S → S[136]? = some (23, 1) → fL_law_700 E.2.2.2 k23 l4 I L G D S = some 1 → AtJ E xL_law Zlaw (601024, 7293034) 200 700 [(0, .ref (E.2.2.2 103)), (1, .ref (E.1 + 0)), (2, .ref (E.1 + 66)), (3, .ref (E.1 + 136)), (4, .int l4)] [] I L G D S := by
  intro l4 I L G D S hL h3 h
  unfold fL_law_700 at h
  refine j_aload_n 701 dL_law_700 rfl rfl 1 rfl ?_
  refine j_aload_n 702 dL_law_701 rfl rfl 0 rfl ?_
  refine j_iload 704 dL_law_702 rfl 4 rfl ?_
  refine j_iconst (v := (1 : Int32)) 705 dL_law_704 rfl (by decide) ?_
  refine j_iadd 706 dL_law_705 rfl ?_
  obtain ⟨hg, h⟩ := j_gs h
  refine j_sld 707 dL_law_706 rfl (j_inv hg) ?_
  refine j_aload_n 708 dL_law_707 rfl rfl 0 rfl ?_
  refine j_iload 710 dL_law_708 rfl 4 rfl ?_
  refine j_iconst (v := (2 : Int32)) 711 dL_law_710 rfl (by decide) ?_
  refine j_iadd 712 dL_law_711 rfl ?_
  obtain ⟨hg, h⟩ := j_gs h
  refine j_sld 713 dL_law_712 rfl (j_inv hg) ?_
  obtain ⟨q17, hq17, h⟩ := j_bs h
  refine j_callV (rest := []) (As := [.int (nI (E.2.2.2 (1000 + (l4 + (1 : Int32)).toNatClampNeg))), .int (nI (E.2.2.2 (1000 + (l4 + (2 : Int32)).toNatClampNeg)))]) 716 dL_law_713 rfl jyX11_holds (tcX11_holds hL  hq17) (sh_0 hL) cl11 flL_68 wm855 wm856 (by decide) rfl rfl (Nat.le_of_ble_eq_true rfl) ?_
  refine j_aload_n 717 dL_law_716 rfl rfl 2 rfl ?_
  refine j_aload_n 718 dL_law_717 rfl rfl 0 rfl ?_
  refine j_iload 720 dL_law_718 rfl 4 rfl ?_
  refine j_iconst (v := (1 : Int32)) 721 dL_law_720 rfl (by decide) ?_
  refine j_iadd 722 dL_law_721 rfl ?_
  obtain ⟨hg, h⟩ := j_gs h
  refine j_sld 723 dL_law_722 rfl (j_inv hg) ?_
  refine j_aload_n 724 dL_law_723 rfl rfl 0 rfl ?_
  refine j_iload 726 dL_law_724 rfl 4 rfl ?_
  refine j_iconst (v := (2 : Int32)) 727 dL_law_726 rfl (by decide) ?_
  refine j_iadd 728 dL_law_727 rfl ?_
  obtain ⟨hg, h⟩ := j_gs h
  refine j_sld 729 dL_law_728 rfl (j_inv hg) ?_
  obtain ⟨q18, hq18, h⟩ := j_bs h
  refine j_callV (rest := [.int q17]) (As := [.int (nI (E.2.2.2 (1000 + (l4 + (1 : Int32)).toNatClampNeg))), .int (nI (E.2.2.2 (1000 + (l4 + (2 : Int32)).toNatClampNeg)))]) 732 dL_law_729 rfl jyX12_holds (tcX12_holds hL  hq18) (sh_66 hL) cl12 flL_71 wm1739 wm1740 (by decide) rfl rfl (Nat.le_of_ble_eq_true rfl) ?_
  refine j_icmp_eq 1823 735 dL_law_732 (by decide) rfl (fun hc => ?_) (fun hc => ?_)
  · replace h := j_pos hc h
    refine j_iinc (v := (l4 + (8 : Int32))) (lv' := [(4, .int (l4 + (8 : Int32))), (0, .ref (E.2.2.2 103)), (1, .ref (E.1 + 0)), (2, .ref (E.1 + 66)), (3, .ref (E.1 + 136))]) (q := 4) 1826 dL_law_1823 rfl rfl rfl (by decide) rfl ?_
    refine j_goto 23 dL_law_1826 (by decide) ?_
    refine j_sub [1, 2, 3, 4, 0] rfl ?_
    exact H23 _ _ _ _ _ _ hL h3 h
  · replace h := j_neg hc h
    refine j_iconst (v := (0 : Int32)) 736 dL_law_735 rfl (by decide) ?_
    exact absurd (Option.some.inj h) (by decide)
def fL_law_737 (e : Nat → Nat) (k23 : Int32 → JI → JL → JG → JG → JS → Option Int32) (l4 : Int32) (I : JI) (L : JL) (G : JG) (D : JG) (S : JS) : Option Int32 :=
  j_g (j_in (l4 + (1 : Int32)) (e 104)) (j_g (j_in (l4 + (2 : Int32)) (e 104)) (j_g (j_in (l4 + (3 : Int32)) (e 104)) ((fX11_stands (nI (e (1000 + (l4 + (1 : Int32)).toNatClampNeg))) (nI (e (1000 + (l4 + (2 : Int32)).toNatClampNeg))) (nI (e (1000 + (l4 + (3 : Int32)).toNatClampNeg))) I).bind (fun q19 => j_g (j_in (l4 + (1 : Int32)) (e 104)) (j_g (j_in (l4 + (2 : Int32)) (e 104)) (j_g (j_in (l4 + (3 : Int32)) (e 104)) ((fX12_stands (nI (e (1000 + (l4 + (1 : Int32)).toNatClampNeg))) (nI (e (1000 + (l4 + (2 : Int32)).toNatClampNeg))) (nI (e (1000 + (l4 + (3 : Int32)).toNatClampNeg))) I).bind (fun q20 => if q19 = q20.1 then (k23 (l4 + (8 : Int32)) q20.2 L G D S) else (some (0 : Int32))))))))))
set_option maxHeartbeats 4000000 in
set_option maxRecDepth 100000 in
theorem kL_law_737 {E : JE} {k23 : Int32 → JI → JL → JG → JG → JS → Option Int32} (H23 : ∀ (l4 : Int32) (I : JI) (L : JL) (G : JG) (D : JG) (S : JS), Lay G S → S[136]? = some (23, 1) → k23 l4 I L G D S = some 1 → AtJ E xL_law Zlaw (601024, 7293034) 200 23 [(0, .ref (E.2.2.2 103)), (1, .ref (E.1 + 0)), (2, .ref (E.1 + 66)), (3, .ref (E.1 + 136)), (4, .int l4)] [] I L G D S) : ∀ (l4 : Int32) (I : JI) (L : JL) (G : JG) (D : JG) (S : JS), Lay G S → S[136]? = some (23, 1) → fL_law_737 E.2.2.2 k23 l4 I L G D S = some 1 → AtJ E xL_law Zlaw (601024, 7293034) 200 737 [(0, .ref (E.2.2.2 103)), (1, .ref (E.1 + 0)), (2, .ref (E.1 + 66)), (3, .ref (E.1 + 136)), (4, .int l4)] [] I L G D S := by
  intro l4 I L G D S hL h3 h
  unfold fL_law_737 at h
  refine j_aload_n 738 dL_law_737 rfl rfl 1 rfl ?_
  refine j_aload_n 739 dL_law_738 rfl rfl 0 rfl ?_
  refine j_iload 741 dL_law_739 rfl 4 rfl ?_
  refine j_iconst (v := (1 : Int32)) 742 dL_law_741 rfl (by decide) ?_
  refine j_iadd 743 dL_law_742 rfl ?_
  obtain ⟨hg, h⟩ := j_gs h
  refine j_sld 744 dL_law_743 rfl (j_inv hg) ?_
  refine j_aload_n 745 dL_law_744 rfl rfl 0 rfl ?_
  refine j_iload 747 dL_law_745 rfl 4 rfl ?_
  refine j_iconst (v := (2 : Int32)) 748 dL_law_747 rfl (by decide) ?_
  refine j_iadd 749 dL_law_748 rfl ?_
  obtain ⟨hg, h⟩ := j_gs h
  refine j_sld 750 dL_law_749 rfl (j_inv hg) ?_
  refine j_aload_n 751 dL_law_750 rfl rfl 0 rfl ?_
  refine j_iload 753 dL_law_751 rfl 4 rfl ?_
  refine j_iconst (v := (3 : Int32)) 754 dL_law_753 rfl (by decide) ?_
  refine j_iadd 755 dL_law_754 rfl ?_
  obtain ⟨hg, h⟩ := j_gs h
  refine j_sld 756 dL_law_755 rfl (j_inv hg) ?_
  obtain ⟨q19, hq19, h⟩ := j_bs h
  refine j_callV (rest := []) (As := [.int (nI (E.2.2.2 (1000 + (l4 + (1 : Int32)).toNatClampNeg))), .int (nI (E.2.2.2 (1000 + (l4 + (2 : Int32)).toNatClampNeg))), .int (nI (E.2.2.2 (1000 + (l4 + (3 : Int32)).toNatClampNeg)))]) 759 dL_law_756 rfl jyX11_stands (tcX11_stands hL  hq19) (sh_0 hL) cl11 flL_72 wm859 wm860 (by decide) rfl rfl (Nat.le_of_ble_eq_true rfl) ?_
  refine j_aload_n 760 dL_law_759 rfl rfl 2 rfl ?_
  refine j_aload_n 761 dL_law_760 rfl rfl 0 rfl ?_
  refine j_iload 763 dL_law_761 rfl 4 rfl ?_
  refine j_iconst (v := (1 : Int32)) 764 dL_law_763 rfl (by decide) ?_
  refine j_iadd 765 dL_law_764 rfl ?_
  obtain ⟨hg, h⟩ := j_gs h
  refine j_sld 766 dL_law_765 rfl (j_inv hg) ?_
  refine j_aload_n 767 dL_law_766 rfl rfl 0 rfl ?_
  refine j_iload 769 dL_law_767 rfl 4 rfl ?_
  refine j_iconst (v := (2 : Int32)) 770 dL_law_769 rfl (by decide) ?_
  refine j_iadd 771 dL_law_770 rfl ?_
  obtain ⟨hg, h⟩ := j_gs h
  refine j_sld 772 dL_law_771 rfl (j_inv hg) ?_
  refine j_aload_n 773 dL_law_772 rfl rfl 0 rfl ?_
  refine j_iload 775 dL_law_773 rfl 4 rfl ?_
  refine j_iconst (v := (3 : Int32)) 776 dL_law_775 rfl (by decide) ?_
  refine j_iadd 777 dL_law_776 rfl ?_
  obtain ⟨hg, h⟩ := j_gs h
  refine j_sld 778 dL_law_777 rfl (j_inv hg) ?_
  obtain ⟨q20, hq20, h⟩ := j_bs h
  refine j_callV (rest := [.int q19]) (As := [.int (nI (E.2.2.2 (1000 + (l4 + (1 : Int32)).toNatClampNeg))), .int (nI (E.2.2.2 (1000 + (l4 + (2 : Int32)).toNatClampNeg))), .int (nI (E.2.2.2 (1000 + (l4 + (3 : Int32)).toNatClampNeg)))]) 781 dL_law_778 rfl jyX12_stands (tcX12_stands hL  hq20) (sh_66 hL) cl12 flL_76 wm1743 wm1744 (by decide) rfl rfl (Nat.le_of_ble_eq_true rfl) ?_
  refine j_icmp_eq 1823 784 dL_law_781 (by decide) rfl (fun hc => ?_) (fun hc => ?_)
  · replace h := j_pos hc h
    refine j_iinc (v := (l4 + (8 : Int32))) (lv' := [(4, .int (l4 + (8 : Int32))), (0, .ref (E.2.2.2 103)), (1, .ref (E.1 + 0)), (2, .ref (E.1 + 66)), (3, .ref (E.1 + 136))]) (q := 4) 1826 dL_law_1823 rfl rfl rfl (by decide) rfl ?_
    refine j_goto 23 dL_law_1826 (by decide) ?_
    refine j_sub [1, 2, 3, 4, 0] rfl ?_
    exact H23 _ _ _ _ _ _ hL h3 h
  · replace h := j_neg hc h
    refine j_iconst (v := (0 : Int32)) 785 dL_law_784 rfl (by decide) ?_
    exact absurd (Option.some.inj h) (by decide)
def fL_law_786 (e : Nat → Nat) (k23 : Int32 → JI → JL → JG → JG → JS → Option Int32) (l4 : Int32) (I : JI) (L : JL) (G : JG) (D : JG) (S : JS) : Option Int32 :=
  j_g (j_in (l4 + (1 : Int32)) (e 104)) (j_g (j_in (l4 + (2 : Int32)) (e 104)) (j_g (j_in (l4 + (3 : Int32)) (e 104)) (j_g (j_in (l4 + (4 : Int32)) (e 104)) (j_g (j_in (l4 + (5 : Int32)) (e 104)) (j_g (j_in (l4 + (6 : Int32)) (e 104)) (j_g (j_in (l4 + (7 : Int32)) (e 104)) ((fX11_pass (nI (e (1000 + (l4 + (1 : Int32)).toNatClampNeg))) (nI (e (1000 + (l4 + (2 : Int32)).toNatClampNeg))) (nI (e (1000 + (l4 + (3 : Int32)).toNatClampNeg))) (nI (e (1000 + (l4 + (4 : Int32)).toNatClampNeg))) (nI (e (1000 + (l4 + (5 : Int32)).toNatClampNeg))) (nI (e (1000 + (l4 + (6 : Int32)).toNatClampNeg))) (nI (e (1000 + (l4 + (7 : Int32)).toNatClampNeg))) I L G D S).bind (fun q21 => j_g (j_in (l4 + (1 : Int32)) (e 104)) (j_g (j_in (l4 + (2 : Int32)) (e 104)) (j_g (j_in (l4 + (3 : Int32)) (e 104)) (j_g (j_in (l4 + (4 : Int32)) (e 104)) (j_g (j_in (l4 + (5 : Int32)) (e 104)) (j_g (j_in (l4 + (6 : Int32)) (e 104)) (j_g (j_in (l4 + (7 : Int32)) (e 104)) ((fX12_pass (nI (e (1000 + (l4 + (1 : Int32)).toNatClampNeg))) (nI (e (1000 + (l4 + (2 : Int32)).toNatClampNeg))) (nI (e (1000 + (l4 + (3 : Int32)).toNatClampNeg))) (nI (e (1000 + (l4 + (4 : Int32)).toNatClampNeg))) (nI (e (1000 + (l4 + (5 : Int32)).toNatClampNeg))) (nI (e (1000 + (l4 + (6 : Int32)).toNatClampNeg))) (nI (e (1000 + (l4 + (7 : Int32)).toNatClampNeg))) q21.2.1).bind (fun q22 => if q21.1 = q22.1 then (k23 (l4 + (8 : Int32)) q22.2 q21.2.2.1 q21.2.2.2.1 q21.2.2.2.2.1 q21.2.2.2.2.2) else (some (0 : Int32))))))))))))))))))
set_option maxHeartbeats 4000000 in
set_option maxRecDepth 100000 in
theorem kL_law_786 {E : JE} {k23 : Int32 → JI → JL → JG → JG → JS → Option Int32} (H23 : ∀ (l4 : Int32) (I : JI) (L : JL) (G : JG) (D : JG) (S : JS), Lay G S → S[136]? = some (23, 1) → k23 l4 I L G D S = some 1 → AtJ E xL_law Zlaw (601024, 7293034) 200 23 [(0, .ref (E.2.2.2 103)), (1, .ref (E.1 + 0)), (2, .ref (E.1 + 66)), (3, .ref (E.1 + 136)), (4, .int l4)] [] I L G D S) : ∀ (l4 : Int32) (I : JI) (L : JL) (G : JG) (D : JG) (S : JS), Lay G S → S[136]? = some (23, 1) → fL_law_786 E.2.2.2 k23 l4 I L G D S = some 1 → AtJ E xL_law Zlaw (601024, 7293034) 200 786 [(0, .ref (E.2.2.2 103)), (1, .ref (E.1 + 0)), (2, .ref (E.1 + 66)), (3, .ref (E.1 + 136)), (4, .int l4)] [] I L G D S := by
  intro l4 I L G D S hL h3 h
  unfold fL_law_786 at h
  refine j_aload_n 787 dL_law_786 rfl rfl 1 rfl ?_
  refine j_aload_n 788 dL_law_787 rfl rfl 0 rfl ?_
  refine j_iload 790 dL_law_788 rfl 4 rfl ?_
  refine j_iconst (v := (1 : Int32)) 791 dL_law_790 rfl (by decide) ?_
  refine j_iadd 792 dL_law_791 rfl ?_
  obtain ⟨hg, h⟩ := j_gs h
  refine j_sld 793 dL_law_792 rfl (j_inv hg) ?_
  refine j_aload_n 794 dL_law_793 rfl rfl 0 rfl ?_
  refine j_iload 796 dL_law_794 rfl 4 rfl ?_
  refine j_iconst (v := (2 : Int32)) 797 dL_law_796 rfl (by decide) ?_
  refine j_iadd 798 dL_law_797 rfl ?_
  obtain ⟨hg, h⟩ := j_gs h
  refine j_sld 799 dL_law_798 rfl (j_inv hg) ?_
  refine j_aload_n 800 dL_law_799 rfl rfl 0 rfl ?_
  refine j_iload 802 dL_law_800 rfl 4 rfl ?_
  refine j_iconst (v := (3 : Int32)) 803 dL_law_802 rfl (by decide) ?_
  refine j_iadd 804 dL_law_803 rfl ?_
  obtain ⟨hg, h⟩ := j_gs h
  refine j_sld 805 dL_law_804 rfl (j_inv hg) ?_
  refine j_aload_n 806 dL_law_805 rfl rfl 0 rfl ?_
  refine j_iload 808 dL_law_806 rfl 4 rfl ?_
  refine j_iconst (v := (4 : Int32)) 809 dL_law_808 rfl (by decide) ?_
  refine j_iadd 810 dL_law_809 rfl ?_
  obtain ⟨hg, h⟩ := j_gs h
  refine j_sld 811 dL_law_810 rfl (j_inv hg) ?_
  refine j_aload_n 812 dL_law_811 rfl rfl 0 rfl ?_
  refine j_iload 814 dL_law_812 rfl 4 rfl ?_
  refine j_iconst (v := (5 : Int32)) 815 dL_law_814 rfl (by decide) ?_
  refine j_iadd 816 dL_law_815 rfl ?_
  obtain ⟨hg, h⟩ := j_gs h
  refine j_sld 817 dL_law_816 rfl (j_inv hg) ?_
  refine j_aload_n 818 dL_law_817 rfl rfl 0 rfl ?_
  refine j_iload 820 dL_law_818 rfl 4 rfl ?_
  refine j_bipush (v := (6 : Int32)) 822 dL_law_820 rfl (by decide) ?_
  refine j_iadd 823 dL_law_822 rfl ?_
  obtain ⟨hg, h⟩ := j_gs h
  refine j_sld 824 dL_law_823 rfl (j_inv hg) ?_
  refine j_aload_n 825 dL_law_824 rfl rfl 0 rfl ?_
  refine j_iload 827 dL_law_825 rfl 4 rfl ?_
  refine j_bipush (v := (7 : Int32)) 829 dL_law_827 rfl (by decide) ?_
  refine j_iadd 830 dL_law_829 rfl ?_
  obtain ⟨hg, h⟩ := j_gs h
  refine j_sld 831 dL_law_830 rfl (j_inv hg) ?_
  obtain ⟨q21, hq21, h⟩ := j_bs h
  refine j_callV (rest := []) (As := [.int (nI (E.2.2.2 (1000 + (l4 + (1 : Int32)).toNatClampNeg))), .int (nI (E.2.2.2 (1000 + (l4 + (2 : Int32)).toNatClampNeg))), .int (nI (E.2.2.2 (1000 + (l4 + (3 : Int32)).toNatClampNeg))), .int (nI (E.2.2.2 (1000 + (l4 + (4 : Int32)).toNatClampNeg))), .int (nI (E.2.2.2 (1000 + (l4 + (5 : Int32)).toNatClampNeg))), .int (nI (E.2.2.2 (1000 + (l4 + (6 : Int32)).toNatClampNeg))), .int (nI (E.2.2.2 (1000 + (l4 + (7 : Int32)).toNatClampNeg)))]) 834 dL_law_831 rfl jyX11_pass (tcX11_pass hL  hq21) (sh_0 hL) cl11 flL_77 wm871 wm872 (by decide) rfl rfl (Nat.le_of_ble_eq_true rfl) ?_
  have h3q21 := preX11_pass hL h3 hq21
  replace hL := lyX11_pass hL hq21
  refine j_aload_n 835 dL_law_834 rfl rfl 2 rfl ?_
  refine j_aload_n 836 dL_law_835 rfl rfl 0 rfl ?_
  refine j_iload 838 dL_law_836 rfl 4 rfl ?_
  refine j_iconst (v := (1 : Int32)) 839 dL_law_838 rfl (by decide) ?_
  refine j_iadd 840 dL_law_839 rfl ?_
  obtain ⟨hg, h⟩ := j_gs h
  refine j_sld 841 dL_law_840 rfl (j_inv hg) ?_
  refine j_aload_n 842 dL_law_841 rfl rfl 0 rfl ?_
  refine j_iload 844 dL_law_842 rfl 4 rfl ?_
  refine j_iconst (v := (2 : Int32)) 845 dL_law_844 rfl (by decide) ?_
  refine j_iadd 846 dL_law_845 rfl ?_
  obtain ⟨hg, h⟩ := j_gs h
  refine j_sld 847 dL_law_846 rfl (j_inv hg) ?_
  refine j_aload_n 848 dL_law_847 rfl rfl 0 rfl ?_
  refine j_iload 850 dL_law_848 rfl 4 rfl ?_
  refine j_iconst (v := (3 : Int32)) 851 dL_law_850 rfl (by decide) ?_
  refine j_iadd 852 dL_law_851 rfl ?_
  obtain ⟨hg, h⟩ := j_gs h
  refine j_sld 853 dL_law_852 rfl (j_inv hg) ?_
  refine j_aload_n 854 dL_law_853 rfl rfl 0 rfl ?_
  refine j_iload 856 dL_law_854 rfl 4 rfl ?_
  refine j_iconst (v := (4 : Int32)) 857 dL_law_856 rfl (by decide) ?_
  refine j_iadd 858 dL_law_857 rfl ?_
  obtain ⟨hg, h⟩ := j_gs h
  refine j_sld 859 dL_law_858 rfl (j_inv hg) ?_
  refine j_aload_n 860 dL_law_859 rfl rfl 0 rfl ?_
  refine j_iload 862 dL_law_860 rfl 4 rfl ?_
  refine j_iconst (v := (5 : Int32)) 863 dL_law_862 rfl (by decide) ?_
  refine j_iadd 864 dL_law_863 rfl ?_
  obtain ⟨hg, h⟩ := j_gs h
  refine j_sld 865 dL_law_864 rfl (j_inv hg) ?_
  refine j_aload_n 866 dL_law_865 rfl rfl 0 rfl ?_
  refine j_iload 868 dL_law_866 rfl 4 rfl ?_
  refine j_bipush (v := (6 : Int32)) 870 dL_law_868 rfl (by decide) ?_
  refine j_iadd 871 dL_law_870 rfl ?_
  obtain ⟨hg, h⟩ := j_gs h
  refine j_sld 872 dL_law_871 rfl (j_inv hg) ?_
  refine j_aload_n 873 dL_law_872 rfl rfl 0 rfl ?_
  refine j_iload 875 dL_law_873 rfl 4 rfl ?_
  refine j_bipush (v := (7 : Int32)) 877 dL_law_875 rfl (by decide) ?_
  refine j_iadd 878 dL_law_877 rfl ?_
  obtain ⟨hg, h⟩ := j_gs h
  refine j_sld 879 dL_law_878 rfl (j_inv hg) ?_
  obtain ⟨q22, hq22, h⟩ := j_bs h
  refine j_callV (rest := [.int q21.1]) (As := [.int (nI (E.2.2.2 (1000 + (l4 + (1 : Int32)).toNatClampNeg))), .int (nI (E.2.2.2 (1000 + (l4 + (2 : Int32)).toNatClampNeg))), .int (nI (E.2.2.2 (1000 + (l4 + (3 : Int32)).toNatClampNeg))), .int (nI (E.2.2.2 (1000 + (l4 + (4 : Int32)).toNatClampNeg))), .int (nI (E.2.2.2 (1000 + (l4 + (5 : Int32)).toNatClampNeg))), .int (nI (E.2.2.2 (1000 + (l4 + (6 : Int32)).toNatClampNeg))), .int (nI (E.2.2.2 (1000 + (l4 + (7 : Int32)).toNatClampNeg)))]) 882 dL_law_879 rfl jyX12_pass (tcX12_pass hL  hq22) (sh_66 hL) cl12 flL_81 wm1849 wm1850 (by decide) rfl rfl (Nat.le_of_ble_eq_true rfl) ?_
  refine j_icmp_eq 1823 885 dL_law_882 (by decide) rfl (fun hc => ?_) (fun hc => ?_)
  · replace h := j_pos hc h
    refine j_iinc (v := (l4 + (8 : Int32))) (lv' := [(4, .int (l4 + (8 : Int32))), (0, .ref (E.2.2.2 103)), (1, .ref (E.1 + 0)), (2, .ref (E.1 + 66)), (3, .ref (E.1 + 136))]) (q := 4) 1826 dL_law_1823 rfl rfl rfl (by decide) rfl ?_
    refine j_goto 23 dL_law_1826 (by decide) ?_
    refine j_sub [1, 2, 3, 4, 0] rfl ?_
    exact H23 _ _ _ _ _ _ hL h3q21 h
  · replace h := j_neg hc h
    refine j_iconst (v := (0 : Int32)) 886 dL_law_885 rfl (by decide) ?_
    exact absurd (Option.some.inj h) (by decide)
def fL_law_887 (e : Nat → Nat) (k23 : Int32 → JI → JL → JG → JG → JS → Option Int32) (l4 : Int32) (I : JI) (L : JL) (G : JG) (D : JG) (S : JS) : Option Int32 :=
  j_g (j_in (l4 + (1 : Int32)) (e 104)) (j_g (j_in (l4 + (2 : Int32)) (e 104)) (j_g (j_in (l4 + (3 : Int32)) (e 104)) (j_g (j_in (l4 + (4 : Int32)) (e 104)) (j_g (j_in (l4 + (5 : Int32)) (e 104)) (j_g (j_in (l4 + (6 : Int32)) (e 104)) (j_g (j_in (l4 + (7 : Int32)) (e 104)) ((fX11_would (nI (e (1000 + (l4 + (1 : Int32)).toNatClampNeg))) (nI (e (1000 + (l4 + (2 : Int32)).toNatClampNeg))) (nI (e (1000 + (l4 + (3 : Int32)).toNatClampNeg))) (nI (e (1000 + (l4 + (4 : Int32)).toNatClampNeg))) (nI (e (1000 + (l4 + (5 : Int32)).toNatClampNeg))) (nI (e (1000 + (l4 + (6 : Int32)).toNatClampNeg))) (nI (e (1000 + (l4 + (7 : Int32)).toNatClampNeg))) I L D S).bind (fun q23 => j_g (j_in (l4 + (1 : Int32)) (e 104)) (j_g (j_in (l4 + (2 : Int32)) (e 104)) (j_g (j_in (l4 + (3 : Int32)) (e 104)) (j_g (j_in (l4 + (4 : Int32)) (e 104)) (j_g (j_in (l4 + (5 : Int32)) (e 104)) (j_g (j_in (l4 + (6 : Int32)) (e 104)) (j_g (j_in (l4 + (7 : Int32)) (e 104)) ((fX12_would (nI (e (1000 + (l4 + (1 : Int32)).toNatClampNeg))) (nI (e (1000 + (l4 + (2 : Int32)).toNatClampNeg))) (nI (e (1000 + (l4 + (3 : Int32)).toNatClampNeg))) (nI (e (1000 + (l4 + (4 : Int32)).toNatClampNeg))) (nI (e (1000 + (l4 + (5 : Int32)).toNatClampNeg))) (nI (e (1000 + (l4 + (6 : Int32)).toNatClampNeg))) (nI (e (1000 + (l4 + (7 : Int32)).toNatClampNeg))) q23.2.1).bind (fun q24 => if q23.1 = q24.1 then (k23 (l4 + (8 : Int32)) q24.2 L G q23.2.2 S) else (some (0 : Int32))))))))))))))))))
set_option maxHeartbeats 4000000 in
set_option maxRecDepth 100000 in
theorem kL_law_887 {E : JE} {k23 : Int32 → JI → JL → JG → JG → JS → Option Int32} (H23 : ∀ (l4 : Int32) (I : JI) (L : JL) (G : JG) (D : JG) (S : JS), Lay G S → S[136]? = some (23, 1) → k23 l4 I L G D S = some 1 → AtJ E xL_law Zlaw (601024, 7293034) 200 23 [(0, .ref (E.2.2.2 103)), (1, .ref (E.1 + 0)), (2, .ref (E.1 + 66)), (3, .ref (E.1 + 136)), (4, .int l4)] [] I L G D S) : ∀ (l4 : Int32) (I : JI) (L : JL) (G : JG) (D : JG) (S : JS), Lay G S → S[136]? = some (23, 1) → fL_law_887 E.2.2.2 k23 l4 I L G D S = some 1 → AtJ E xL_law Zlaw (601024, 7293034) 200 887 [(0, .ref (E.2.2.2 103)), (1, .ref (E.1 + 0)), (2, .ref (E.1 + 66)), (3, .ref (E.1 + 136)), (4, .int l4)] [] I L G D S := by
  intro l4 I L G D S hL h3 h
  unfold fL_law_887 at h
  refine j_aload_n 888 dL_law_887 rfl rfl 1 rfl ?_
  refine j_aload_n 889 dL_law_888 rfl rfl 0 rfl ?_
  refine j_iload 891 dL_law_889 rfl 4 rfl ?_
  refine j_iconst (v := (1 : Int32)) 892 dL_law_891 rfl (by decide) ?_
  refine j_iadd 893 dL_law_892 rfl ?_
  obtain ⟨hg, h⟩ := j_gs h
  refine j_sld 894 dL_law_893 rfl (j_inv hg) ?_
  refine j_aload_n 895 dL_law_894 rfl rfl 0 rfl ?_
  refine j_iload 897 dL_law_895 rfl 4 rfl ?_
  refine j_iconst (v := (2 : Int32)) 898 dL_law_897 rfl (by decide) ?_
  refine j_iadd 899 dL_law_898 rfl ?_
  obtain ⟨hg, h⟩ := j_gs h
  refine j_sld 900 dL_law_899 rfl (j_inv hg) ?_
  refine j_aload_n 901 dL_law_900 rfl rfl 0 rfl ?_
  refine j_iload 903 dL_law_901 rfl 4 rfl ?_
  refine j_iconst (v := (3 : Int32)) 904 dL_law_903 rfl (by decide) ?_
  refine j_iadd 905 dL_law_904 rfl ?_
  obtain ⟨hg, h⟩ := j_gs h
  refine j_sld 906 dL_law_905 rfl (j_inv hg) ?_
  refine j_aload_n 907 dL_law_906 rfl rfl 0 rfl ?_
  refine j_iload 909 dL_law_907 rfl 4 rfl ?_
  refine j_iconst (v := (4 : Int32)) 910 dL_law_909 rfl (by decide) ?_
  refine j_iadd 911 dL_law_910 rfl ?_
  obtain ⟨hg, h⟩ := j_gs h
  refine j_sld 912 dL_law_911 rfl (j_inv hg) ?_
  refine j_aload_n 913 dL_law_912 rfl rfl 0 rfl ?_
  refine j_iload 915 dL_law_913 rfl 4 rfl ?_
  refine j_iconst (v := (5 : Int32)) 916 dL_law_915 rfl (by decide) ?_
  refine j_iadd 917 dL_law_916 rfl ?_
  obtain ⟨hg, h⟩ := j_gs h
  refine j_sld 918 dL_law_917 rfl (j_inv hg) ?_
  refine j_aload_n 919 dL_law_918 rfl rfl 0 rfl ?_
  refine j_iload 921 dL_law_919 rfl 4 rfl ?_
  refine j_bipush (v := (6 : Int32)) 923 dL_law_921 rfl (by decide) ?_
  refine j_iadd 924 dL_law_923 rfl ?_
  obtain ⟨hg, h⟩ := j_gs h
  refine j_sld 925 dL_law_924 rfl (j_inv hg) ?_
  refine j_aload_n 926 dL_law_925 rfl rfl 0 rfl ?_
  refine j_iload 928 dL_law_926 rfl 4 rfl ?_
  refine j_bipush (v := (7 : Int32)) 930 dL_law_928 rfl (by decide) ?_
  refine j_iadd 931 dL_law_930 rfl ?_
  obtain ⟨hg, h⟩ := j_gs h
  refine j_sld 932 dL_law_931 rfl (j_inv hg) ?_
  obtain ⟨q23, hq23, h⟩ := j_bs h
  refine j_callV (rest := []) (As := [.int (nI (E.2.2.2 (1000 + (l4 + (1 : Int32)).toNatClampNeg))), .int (nI (E.2.2.2 (1000 + (l4 + (2 : Int32)).toNatClampNeg))), .int (nI (E.2.2.2 (1000 + (l4 + (3 : Int32)).toNatClampNeg))), .int (nI (E.2.2.2 (1000 + (l4 + (4 : Int32)).toNatClampNeg))), .int (nI (E.2.2.2 (1000 + (l4 + (5 : Int32)).toNatClampNeg))), .int (nI (E.2.2.2 (1000 + (l4 + (6 : Int32)).toNatClampNeg))), .int (nI (E.2.2.2 (1000 + (l4 + (7 : Int32)).toNatClampNeg)))]) 935 dL_law_932 rfl jyX11_would (tcX11_would hL  hq23) (sh_0 hL) cl11 flL_82 wm996 wm997 (by decide) rfl rfl (Nat.le_of_ble_eq_true rfl) ?_
  refine j_aload_n 936 dL_law_935 rfl rfl 2 rfl ?_
  refine j_aload_n 937 dL_law_936 rfl rfl 0 rfl ?_
  refine j_iload 939 dL_law_937 rfl 4 rfl ?_
  refine j_iconst (v := (1 : Int32)) 940 dL_law_939 rfl (by decide) ?_
  refine j_iadd 941 dL_law_940 rfl ?_
  obtain ⟨hg, h⟩ := j_gs h
  refine j_sld 942 dL_law_941 rfl (j_inv hg) ?_
  refine j_aload_n 943 dL_law_942 rfl rfl 0 rfl ?_
  refine j_iload 945 dL_law_943 rfl 4 rfl ?_
  refine j_iconst (v := (2 : Int32)) 946 dL_law_945 rfl (by decide) ?_
  refine j_iadd 947 dL_law_946 rfl ?_
  obtain ⟨hg, h⟩ := j_gs h
  refine j_sld 948 dL_law_947 rfl (j_inv hg) ?_
  refine j_aload_n 949 dL_law_948 rfl rfl 0 rfl ?_
  refine j_iload 951 dL_law_949 rfl 4 rfl ?_
  refine j_iconst (v := (3 : Int32)) 952 dL_law_951 rfl (by decide) ?_
  refine j_iadd 953 dL_law_952 rfl ?_
  obtain ⟨hg, h⟩ := j_gs h
  refine j_sld 954 dL_law_953 rfl (j_inv hg) ?_
  refine j_aload_n 955 dL_law_954 rfl rfl 0 rfl ?_
  refine j_iload 957 dL_law_955 rfl 4 rfl ?_
  refine j_iconst (v := (4 : Int32)) 958 dL_law_957 rfl (by decide) ?_
  refine j_iadd 959 dL_law_958 rfl ?_
  obtain ⟨hg, h⟩ := j_gs h
  refine j_sld 960 dL_law_959 rfl (j_inv hg) ?_
  refine j_aload_n 961 dL_law_960 rfl rfl 0 rfl ?_
  refine j_iload 963 dL_law_961 rfl 4 rfl ?_
  refine j_iconst (v := (5 : Int32)) 964 dL_law_963 rfl (by decide) ?_
  refine j_iadd 965 dL_law_964 rfl ?_
  obtain ⟨hg, h⟩ := j_gs h
  refine j_sld 966 dL_law_965 rfl (j_inv hg) ?_
  refine j_aload_n 967 dL_law_966 rfl rfl 0 rfl ?_
  refine j_iload 969 dL_law_967 rfl 4 rfl ?_
  refine j_bipush (v := (6 : Int32)) 971 dL_law_969 rfl (by decide) ?_
  refine j_iadd 972 dL_law_971 rfl ?_
  obtain ⟨hg, h⟩ := j_gs h
  refine j_sld 973 dL_law_972 rfl (j_inv hg) ?_
  refine j_aload_n 974 dL_law_973 rfl rfl 0 rfl ?_
  refine j_iload 976 dL_law_974 rfl 4 rfl ?_
  refine j_bipush (v := (7 : Int32)) 978 dL_law_976 rfl (by decide) ?_
  refine j_iadd 979 dL_law_978 rfl ?_
  obtain ⟨hg, h⟩ := j_gs h
  refine j_sld 980 dL_law_979 rfl (j_inv hg) ?_
  obtain ⟨q24, hq24, h⟩ := j_bs h
  refine j_callV (rest := [.int q23.1]) (As := [.int (nI (E.2.2.2 (1000 + (l4 + (1 : Int32)).toNatClampNeg))), .int (nI (E.2.2.2 (1000 + (l4 + (2 : Int32)).toNatClampNeg))), .int (nI (E.2.2.2 (1000 + (l4 + (3 : Int32)).toNatClampNeg))), .int (nI (E.2.2.2 (1000 + (l4 + (4 : Int32)).toNatClampNeg))), .int (nI (E.2.2.2 (1000 + (l4 + (5 : Int32)).toNatClampNeg))), .int (nI (E.2.2.2 (1000 + (l4 + (6 : Int32)).toNatClampNeg))), .int (nI (E.2.2.2 (1000 + (l4 + (7 : Int32)).toNatClampNeg)))]) 983 dL_law_980 rfl jyX12_would (tcX12_would hL  hq24) (sh_66 hL) cl12 flL_85 wm1901 wm1902 (by decide) rfl rfl (Nat.le_of_ble_eq_true rfl) ?_
  refine j_icmp_eq 1823 986 dL_law_983 (by decide) rfl (fun hc => ?_) (fun hc => ?_)
  · replace h := j_pos hc h
    refine j_iinc (v := (l4 + (8 : Int32))) (lv' := [(4, .int (l4 + (8 : Int32))), (0, .ref (E.2.2.2 103)), (1, .ref (E.1 + 0)), (2, .ref (E.1 + 66)), (3, .ref (E.1 + 136))]) (q := 4) 1826 dL_law_1823 rfl rfl rfl (by decide) rfl ?_
    refine j_goto 23 dL_law_1826 (by decide) ?_
    refine j_sub [1, 2, 3, 4, 0] rfl ?_
    exact H23 _ _ _ _ _ _ hL h3 h
  · replace h := j_neg hc h
    refine j_iconst (v := (0 : Int32)) 987 dL_law_986 rfl (by decide) ?_
    exact absurd (Option.some.inj h) (by decide)
def fL_law_988 (e : Nat → Nat) (k23 : Int32 → JI → JL → JG → JG → JS → Option Int32) (l4 : Int32) (I : JI) (L : JL) (G : JG) (D : JG) (S : JS) : Option Int32 :=
  j_g (j_in (l4 + (1 : Int32)) (e 104)) (j_g (j_in (l4 + (2 : Int32)) (e 104)) ((fL_look (nI (e (1000 + (l4 + (1 : Int32)).toNatClampNeg))) (nI (e (1000 + (l4 + (2 : Int32)).toNatClampNeg))) 136 I L D S).bind (fun q25 => j_g (j_in (l4 + (1 : Int32)) (e 104)) (j_g (j_in (l4 + (2 : Int32)) (e 104)) ((fX12_look (nI (e (1000 + (l4 + (1 : Int32)).toNatClampNeg))) (nI (e (1000 + (l4 + (2 : Int32)).toNatClampNeg))) I).bind (fun q26 => (fX12_thrown q26.2).bind (fun q27 => if q27 = q25.1 then (if q25.1 = 0 then (j_g (j_in (0 : Int32) 1) (if (lg_cmp (q25.2.1 136 (0 : Int32).toNatClampNeg) q26.1.toInt64) = 0 then (k23 (l4 + (8 : Int32)) q26.2 q25.2.1 G D q25.2.2) else (some (0 : Int32)))) else (k23 (l4 + (8 : Int32)) q26.2 q25.2.1 G D q25.2.2)) else (some (0 : Int32)))))))))
set_option maxHeartbeats 4000000 in
set_option maxRecDepth 100000 in
theorem kL_law_988 {E : JE} {k23 : Int32 → JI → JL → JG → JG → JS → Option Int32} (H23 : ∀ (l4 : Int32) (I : JI) (L : JL) (G : JG) (D : JG) (S : JS), Lay G S → S[136]? = some (23, 1) → k23 l4 I L G D S = some 1 → AtJ E xL_law Zlaw (601024, 7293034) 200 23 [(0, .ref (E.2.2.2 103)), (1, .ref (E.1 + 0)), (2, .ref (E.1 + 66)), (3, .ref (E.1 + 136)), (4, .int l4)] [] I L G D S) : ∀ (l4 : Int32) (I : JI) (L : JL) (G : JG) (D : JG) (S : JS), Lay G S → S[136]? = some (23, 1) → fL_law_988 E.2.2.2 k23 l4 I L G D S = some 1 → AtJ E xL_law Zlaw (601024, 7293034) 200 988 [(0, .ref (E.2.2.2 103)), (1, .ref (E.1 + 0)), (2, .ref (E.1 + 66)), (3, .ref (E.1 + 136)), (4, .int l4)] [] I L G D S := by
  intro l4 I L G D S hL h3 h
  unfold fL_law_988 at h
  refine j_aload_n 989 dL_law_988 rfl rfl 1 rfl ?_
  refine j_aload_n 990 dL_law_989 rfl rfl 0 rfl ?_
  refine j_iload 992 dL_law_990 rfl 4 rfl ?_
  refine j_iconst (v := (1 : Int32)) 993 dL_law_992 rfl (by decide) ?_
  refine j_iadd 994 dL_law_993 rfl ?_
  obtain ⟨hg, h⟩ := j_gs h
  refine j_sld 995 dL_law_994 rfl (j_inv hg) ?_
  refine j_aload_n 996 dL_law_995 rfl rfl 0 rfl ?_
  refine j_iload 998 dL_law_996 rfl 4 rfl ?_
  refine j_iconst (v := (2 : Int32)) 999 dL_law_998 rfl (by decide) ?_
  refine j_iadd 1000 dL_law_999 rfl ?_
  obtain ⟨hg, h⟩ := j_gs h
  refine j_sld 1001 dL_law_1000 rfl (j_inv hg) ?_
  refine j_aload_n 1002 dL_law_1001 rfl rfl 3 rfl ?_
  obtain ⟨q25, hq25, h⟩ := j_bs h
  refine j_look (rest := []) 1005 dL_law_1002 rfl rfl hL h3 hq25 rfl (Nat.le_of_ble_eq_true rfl) (by decide) ?_
  have h3q25 := preL_look hL h3 hq25
  replace hL := lyL_look hL hq25
  refine j_istore (lv' := [(5, .int q25.1), (0, .ref (E.2.2.2 103)), (1, .ref (E.1 + 0)), (2, .ref (E.1 + 66)), (3, .ref (E.1 + 136)), (4, .int l4)]) 1007 dL_law_1005 rfl (by decide) rfl ?_
  refine j_aload_n 1008 dL_law_1007 rfl rfl 3 rfl ?_
  refine j_aload_n 1009 dL_law_1008 rfl rfl 1 rfl ?_
  refine j_iload 1011 dL_law_1009 rfl 5 rfl ?_
  refine j_iconst (v := (1 : Int32)) 1012 dL_law_1011 rfl (by decide) ?_
  refine j_iadd 1013 dL_law_1012 rfl ?_
  obtain ⟨hg, h⟩ := j_gs h
  refine j_sld 1014 dL_law_1013 rfl (j_inv hg) ?_
  refine j_aload_n 1015 dL_law_1014 rfl rfl 1 rfl ?_
  refine j_iload 1017 dL_law_1015 rfl 5 rfl ?_
  refine j_iconst (v := (2 : Int32)) 1018 dL_law_1017 rfl (by decide) ?_
  refine j_iadd 1019 dL_law_1018 rfl ?_
  obtain ⟨hg, h⟩ := j_gs h
  refine j_sld 1020 dL_law_1019 rfl (j_inv hg) ?_
  obtain ⟨q26, hq26, h⟩ := j_bs h
  refine j_callV (rest := []) (As := [.int (nI (E.2.2.2 (1000 + (l4 + (1 : Int32)).toNatClampNeg))), .int (nI (E.2.2.2 (1000 + (l4 + (2 : Int32)).toNatClampNeg)))]) 1023 dL_law_1020 rfl jyX12_look (tcX12_look hL  hq26) (sh_66 hL) cl12 flL_91 wm1909 wm1910 (by decide) rfl rfl (Nat.le_of_ble_eq_true rfl) ?_
  refine j_istore (lv' := [(6, .int q26.1), (5, .int q25.1), (0, .ref (E.2.2.2 103)), (1, .ref (E.1 + 0)), (2, .ref (E.1 + 66)), (3, .ref (E.1 + 136)), (4, .int l4)]) 1025 dL_law_1023 rfl (by decide) rfl ?_
  refine j_aload_n 1026 dL_law_1025 rfl rfl 4 rfl ?_
  obtain ⟨q27, hq27, h⟩ := j_bs h
  refine j_callV (rest := []) (As := []) 1029 dL_law_1026 rfl jyX12_thrown (tcX12_thrown hL  hq27) (sh_66 hL) cl12 flL_92 wm1689 wm1690 (by decide) rfl rfl (Nat.le_of_ble_eq_true rfl) ?_
  refine j_iload 1031 dL_law_1029 rfl 1 rfl ?_
  refine j_icmp_eq 1036 1034 dL_law_1031 (by decide) rfl (fun hc => ?_) (fun hc => ?_)
  · replace h := j_pos hc h
    refine j_iload 1038 dL_law_1036 rfl 1 rfl ?_
    refine j_if_ne 1053 1041 dL_law_1038 (by decide) rfl (fun hc => ?_) (fun hc => ?_)
    · replace h := j_neg hc h
      refine j_goto 1823 dL_law_1053 (by decide) ?_
      refine j_iinc (v := (l4 + (8 : Int32))) (lv' := [(4, .int (l4 + (8 : Int32))), (6, .int q26.1), (5, .int q25.1), (0, .ref (E.2.2.2 103)), (1, .ref (E.1 + 0)), (2, .ref (E.1 + 66)), (3, .ref (E.1 + 136))]) (q := 6) 1826 dL_law_1823 rfl rfl rfl (by decide) rfl ?_
      refine j_goto 23 dL_law_1826 (by decide) ?_
      refine j_sub [3, 4, 5, 6, 0] rfl ?_
      exact H23 _ _ _ _ _ _ hL h3q25 h
    · replace h := j_pos hc h
      refine j_aload_n 1042 dL_law_1041 rfl rfl 5 rfl ?_
      refine j_iconst (v := (0 : Int32)) 1043 dL_law_1042 rfl (by decide) ?_
      obtain ⟨hg, h⟩ := j_gs h
      refine j_lald 1044 dL_law_1043 rfl h3q25 (j_inv hg) ?_
      refine j_iload 1046 dL_law_1044 rfl 0 rfl ?_
      refine j_i2l 1047 dL_law_1046 rfl ?_
      refine j_lcmp 1048 dL_law_1047 rfl ?_
      refine j_if_eq 1053 1051 dL_law_1048 (by decide) rfl (fun hc => ?_) (fun hc => ?_)
      · replace h := j_pos hc h
        refine j_goto 1823 dL_law_1053 (by decide) ?_
        refine j_iinc (v := (l4 + (8 : Int32))) (lv' := [(4, .int (l4 + (8 : Int32))), (6, .int q26.1), (5, .int q25.1), (0, .ref (E.2.2.2 103)), (1, .ref (E.1 + 0)), (2, .ref (E.1 + 66)), (3, .ref (E.1 + 136))]) (q := 6) 1826 dL_law_1823 rfl rfl rfl (by decide) rfl ?_
        refine j_goto 23 dL_law_1826 (by decide) ?_
        refine j_sub [3, 4, 5, 6, 0] rfl ?_
        exact H23 _ _ _ _ _ _ hL h3q25 h
      · replace h := j_neg hc h
        refine j_iconst (v := (0 : Int32)) 1052 dL_law_1051 rfl (by decide) ?_
        exact absurd (Option.some.inj h) (by decide)
  · replace h := j_neg hc h
    refine j_iconst (v := (0 : Int32)) 1035 dL_law_1034 rfl (by decide) ?_
    exact absurd (Option.some.inj h) (by decide)
def fL_law_1056 (e : Nat → Nat) (k23 : Int32 → JI → JL → JG → JG → JS → Option Int32) (l4 : Int32) (I : JI) (L : JL) (G : JG) (D : JG) (S : JS) : Option Int32 :=
  j_g (j_in (l4 + (1 : Int32)) (e 104)) (j_g (j_in (l4 + (2 : Int32)) (e 104)) ((fX11_may (nI (e (1000 + (l4 + (1 : Int32)).toNatClampNeg))) (nI (e (1000 + (l4 + (2 : Int32)).toNatClampNeg))) I D S).bind (fun q28 => j_g (j_in (l4 + (1 : Int32)) (e 104)) (j_g (j_in (l4 + (2 : Int32)) (e 104)) ((fX12_may (nI (e (1000 + (l4 + (1 : Int32)).toNatClampNeg))) (nI (e (1000 + (l4 + (2 : Int32)).toNatClampNeg))) I).bind (fun q29 => if q28 = q29.1 then (k23 (l4 + (8 : Int32)) q29.2 L G D S) else (some (0 : Int32))))))))
set_option maxHeartbeats 4000000 in
set_option maxRecDepth 100000 in
theorem kL_law_1056 {E : JE} {k23 : Int32 → JI → JL → JG → JG → JS → Option Int32} (H23 : ∀ (l4 : Int32) (I : JI) (L : JL) (G : JG) (D : JG) (S : JS), Lay G S → S[136]? = some (23, 1) → k23 l4 I L G D S = some 1 → AtJ E xL_law Zlaw (601024, 7293034) 200 23 [(0, .ref (E.2.2.2 103)), (1, .ref (E.1 + 0)), (2, .ref (E.1 + 66)), (3, .ref (E.1 + 136)), (4, .int l4)] [] I L G D S) : ∀ (l4 : Int32) (I : JI) (L : JL) (G : JG) (D : JG) (S : JS), Lay G S → S[136]? = some (23, 1) → fL_law_1056 E.2.2.2 k23 l4 I L G D S = some 1 → AtJ E xL_law Zlaw (601024, 7293034) 200 1056 [(0, .ref (E.2.2.2 103)), (1, .ref (E.1 + 0)), (2, .ref (E.1 + 66)), (3, .ref (E.1 + 136)), (4, .int l4)] [] I L G D S := by
  intro l4 I L G D S hL h3 h
  unfold fL_law_1056 at h
  refine j_aload_n 1057 dL_law_1056 rfl rfl 1 rfl ?_
  refine j_aload_n 1058 dL_law_1057 rfl rfl 0 rfl ?_
  refine j_iload 1060 dL_law_1058 rfl 4 rfl ?_
  refine j_iconst (v := (1 : Int32)) 1061 dL_law_1060 rfl (by decide) ?_
  refine j_iadd 1062 dL_law_1061 rfl ?_
  obtain ⟨hg, h⟩ := j_gs h
  refine j_sld 1063 dL_law_1062 rfl (j_inv hg) ?_
  refine j_aload_n 1064 dL_law_1063 rfl rfl 0 rfl ?_
  refine j_iload 1066 dL_law_1064 rfl 4 rfl ?_
  refine j_iconst (v := (2 : Int32)) 1067 dL_law_1066 rfl (by decide) ?_
  refine j_iadd 1068 dL_law_1067 rfl ?_
  obtain ⟨hg, h⟩ := j_gs h
  refine j_sld 1069 dL_law_1068 rfl (j_inv hg) ?_
  obtain ⟨q28, hq28, h⟩ := j_bs h
  refine j_callV (rest := []) (As := [.int (nI (E.2.2.2 (1000 + (l4 + (1 : Int32)).toNatClampNeg))), .int (nI (E.2.2.2 (1000 + (l4 + (2 : Int32)).toNatClampNeg)))]) 1072 dL_law_1069 rfl jyX11_may (tcX11_may hL  hq28) (sh_0 hL) cl11 flL_95 wm1000 wm1001 (by decide) rfl rfl (Nat.le_of_ble_eq_true rfl) ?_
  refine j_aload_n 1073 dL_law_1072 rfl rfl 2 rfl ?_
  refine j_aload_n 1074 dL_law_1073 rfl rfl 0 rfl ?_
  refine j_iload 1076 dL_law_1074 rfl 4 rfl ?_
  refine j_iconst (v := (1 : Int32)) 1077 dL_law_1076 rfl (by decide) ?_
  refine j_iadd 1078 dL_law_1077 rfl ?_
  obtain ⟨hg, h⟩ := j_gs h
  refine j_sld 1079 dL_law_1078 rfl (j_inv hg) ?_
  refine j_aload_n 1080 dL_law_1079 rfl rfl 0 rfl ?_
  refine j_iload 1082 dL_law_1080 rfl 4 rfl ?_
  refine j_iconst (v := (2 : Int32)) 1083 dL_law_1082 rfl (by decide) ?_
  refine j_iadd 1084 dL_law_1083 rfl ?_
  obtain ⟨hg, h⟩ := j_gs h
  refine j_sld 1085 dL_law_1084 rfl (j_inv hg) ?_
  obtain ⟨q29, hq29, h⟩ := j_bs h
  refine j_callV (rest := [.int q28]) (As := [.int (nI (E.2.2.2 (1000 + (l4 + (1 : Int32)).toNatClampNeg))), .int (nI (E.2.2.2 (1000 + (l4 + (2 : Int32)).toNatClampNeg)))]) 1088 dL_law_1085 rfl jyX12_may (tcX12_may hL  hq29) (sh_66 hL) cl12 flL_98 wm1921 wm1922 (by decide) rfl rfl (Nat.le_of_ble_eq_true rfl) ?_
  refine j_icmp_eq 1823 1091 dL_law_1088 (by decide) rfl (fun hc => ?_) (fun hc => ?_)
  · replace h := j_pos hc h
    refine j_iinc (v := (l4 + (8 : Int32))) (lv' := [(4, .int (l4 + (8 : Int32))), (0, .ref (E.2.2.2 103)), (1, .ref (E.1 + 0)), (2, .ref (E.1 + 66)), (3, .ref (E.1 + 136))]) (q := 4) 1826 dL_law_1823 rfl rfl rfl (by decide) rfl ?_
    refine j_goto 23 dL_law_1826 (by decide) ?_
    refine j_sub [1, 2, 3, 4, 0] rfl ?_
    exact H23 _ _ _ _ _ _ hL h3 h
  · replace h := j_neg hc h
    refine j_iconst (v := (0 : Int32)) 1092 dL_law_1091 rfl (by decide) ?_
    exact absurd (Option.some.inj h) (by decide)
def fL_law_1093 (e : Nat → Nat) (k23 : Int32 → JI → JL → JG → JG → JS → Option Int32) (l4 : Int32) (I : JI) (L : JL) (G : JG) (D : JG) (S : JS) : Option Int32 :=
  j_g (j_in (l4 + (1 : Int32)) (e 104)) (j_g (j_in (l4 + (2 : Int32)) (e 104)) ((fX11_order (nI (e (1000 + (l4 + (1 : Int32)).toNatClampNeg))) (nI (e (1000 + (l4 + (2 : Int32)).toNatClampNeg))) I D S).bind (fun q30 => j_g (j_in (l4 + (1 : Int32)) (e 104)) (j_g (j_in (l4 + (2 : Int32)) (e 104)) ((fX12_order (nI (e (1000 + (l4 + (1 : Int32)).toNatClampNeg))) (nI (e (1000 + (l4 + (2 : Int32)).toNatClampNeg))) I).bind (fun q31 => if q30 = q31.1 then (k23 (l4 + (8 : Int32)) q31.2 L G D S) else (some (0 : Int32))))))))
set_option maxHeartbeats 4000000 in
set_option maxRecDepth 100000 in
theorem kL_law_1093 {E : JE} {k23 : Int32 → JI → JL → JG → JG → JS → Option Int32} (H23 : ∀ (l4 : Int32) (I : JI) (L : JL) (G : JG) (D : JG) (S : JS), Lay G S → S[136]? = some (23, 1) → k23 l4 I L G D S = some 1 → AtJ E xL_law Zlaw (601024, 7293034) 200 23 [(0, .ref (E.2.2.2 103)), (1, .ref (E.1 + 0)), (2, .ref (E.1 + 66)), (3, .ref (E.1 + 136)), (4, .int l4)] [] I L G D S) : ∀ (l4 : Int32) (I : JI) (L : JL) (G : JG) (D : JG) (S : JS), Lay G S → S[136]? = some (23, 1) → fL_law_1093 E.2.2.2 k23 l4 I L G D S = some 1 → AtJ E xL_law Zlaw (601024, 7293034) 200 1093 [(0, .ref (E.2.2.2 103)), (1, .ref (E.1 + 0)), (2, .ref (E.1 + 66)), (3, .ref (E.1 + 136)), (4, .int l4)] [] I L G D S := by
  intro l4 I L G D S hL h3 h
  unfold fL_law_1093 at h
  refine j_aload_n 1094 dL_law_1093 rfl rfl 1 rfl ?_
  refine j_aload_n 1095 dL_law_1094 rfl rfl 0 rfl ?_
  refine j_iload 1097 dL_law_1095 rfl 4 rfl ?_
  refine j_iconst (v := (1 : Int32)) 1098 dL_law_1097 rfl (by decide) ?_
  refine j_iadd 1099 dL_law_1098 rfl ?_
  obtain ⟨hg, h⟩ := j_gs h
  refine j_sld 1100 dL_law_1099 rfl (j_inv hg) ?_
  refine j_aload_n 1101 dL_law_1100 rfl rfl 0 rfl ?_
  refine j_iload 1103 dL_law_1101 rfl 4 rfl ?_
  refine j_iconst (v := (2 : Int32)) 1104 dL_law_1103 rfl (by decide) ?_
  refine j_iadd 1105 dL_law_1104 rfl ?_
  obtain ⟨hg, h⟩ := j_gs h
  refine j_sld 1106 dL_law_1105 rfl (j_inv hg) ?_
  obtain ⟨q30, hq30, h⟩ := j_bs h
  refine j_callV (rest := []) (As := [.int (nI (E.2.2.2 (1000 + (l4 + (1 : Int32)).toNatClampNeg))), .int (nI (E.2.2.2 (1000 + (l4 + (2 : Int32)).toNatClampNeg)))]) 1109 dL_law_1106 rfl jyX11_order (tcX11_order hL  hq30) (sh_0 hL) cl11 flL_99 wm1008 wm1009 (by decide) rfl rfl (Nat.le_of_ble_eq_true rfl) ?_
  refine j_aload_n 1110 dL_law_1109 rfl rfl 2 rfl ?_
  refine j_aload_n 1111 dL_law_1110 rfl rfl 0 rfl ?_
  refine j_iload 1113 dL_law_1111 rfl 4 rfl ?_
  refine j_iconst (v := (1 : Int32)) 1114 dL_law_1113 rfl (by decide) ?_
  refine j_iadd 1115 dL_law_1114 rfl ?_
  obtain ⟨hg, h⟩ := j_gs h
  refine j_sld 1116 dL_law_1115 rfl (j_inv hg) ?_
  refine j_aload_n 1117 dL_law_1116 rfl rfl 0 rfl ?_
  refine j_iload 1119 dL_law_1117 rfl 4 rfl ?_
  refine j_iconst (v := (2 : Int32)) 1120 dL_law_1119 rfl (by decide) ?_
  refine j_iadd 1121 dL_law_1120 rfl ?_
  obtain ⟨hg, h⟩ := j_gs h
  refine j_sld 1122 dL_law_1121 rfl (j_inv hg) ?_
  obtain ⟨q31, hq31, h⟩ := j_bs h
  refine j_callV (rest := [.int q30]) (As := [.int (nI (E.2.2.2 (1000 + (l4 + (1 : Int32)).toNatClampNeg))), .int (nI (E.2.2.2 (1000 + (l4 + (2 : Int32)).toNatClampNeg)))]) 1125 dL_law_1122 rfl jyX12_order (tcX12_order hL  hq31) (sh_66 hL) cl12 flL_102 wm1929 wm1930 (by decide) rfl rfl (Nat.le_of_ble_eq_true rfl) ?_
  refine j_icmp_eq 1823 1128 dL_law_1125 (by decide) rfl (fun hc => ?_) (fun hc => ?_)
  · replace h := j_pos hc h
    refine j_iinc (v := (l4 + (8 : Int32))) (lv' := [(4, .int (l4 + (8 : Int32))), (0, .ref (E.2.2.2 103)), (1, .ref (E.1 + 0)), (2, .ref (E.1 + 66)), (3, .ref (E.1 + 136))]) (q := 4) 1826 dL_law_1823 rfl rfl rfl (by decide) rfl ?_
    refine j_goto 23 dL_law_1826 (by decide) ?_
    refine j_sub [1, 2, 3, 4, 0] rfl ?_
    exact H23 _ _ _ _ _ _ hL h3 h
  · replace h := j_neg hc h
    refine j_iconst (v := (0 : Int32)) 1129 dL_law_1128 rfl (by decide) ?_
    exact absurd (Option.some.inj h) (by decide)
def fL_law_1130 (e : Nat → Nat) (k23 : Int32 → JI → JL → JG → JG → JS → Option Int32) (l4 : Int32) (I : JI) (L : JL) (G : JG) (D : JG) (S : JS) : Option Int32 :=
  j_g (j_in (l4 + (1 : Int32)) (e 104)) (j_g (j_in (l4 + (2 : Int32)) (e 104)) (j_g (j_in (l4 + (3 : Int32)) (e 104)) ((fX11_hears (nI (e (1000 + (l4 + (1 : Int32)).toNatClampNeg))) (nI (e (1000 + (l4 + (2 : Int32)).toNatClampNeg))) (nI (e (1000 + (l4 + (3 : Int32)).toNatClampNeg))) I D S).bind (fun q32 => j_g (j_in (l4 + (1 : Int32)) (e 104)) (j_g (j_in (l4 + (2 : Int32)) (e 104)) (j_g (j_in (l4 + (3 : Int32)) (e 104)) ((fX12_hears (nI (e (1000 + (l4 + (1 : Int32)).toNatClampNeg))) (nI (e (1000 + (l4 + (2 : Int32)).toNatClampNeg))) (nI (e (1000 + (l4 + (3 : Int32)).toNatClampNeg))) q32.2).bind (fun q33 => if q32.1 = q33.1 then (k23 (l4 + (8 : Int32)) q33.2 L G D S) else (some (0 : Int32))))))))))
set_option maxHeartbeats 4000000 in
set_option maxRecDepth 100000 in
theorem kL_law_1130 {E : JE} {k23 : Int32 → JI → JL → JG → JG → JS → Option Int32} (H23 : ∀ (l4 : Int32) (I : JI) (L : JL) (G : JG) (D : JG) (S : JS), Lay G S → S[136]? = some (23, 1) → k23 l4 I L G D S = some 1 → AtJ E xL_law Zlaw (601024, 7293034) 200 23 [(0, .ref (E.2.2.2 103)), (1, .ref (E.1 + 0)), (2, .ref (E.1 + 66)), (3, .ref (E.1 + 136)), (4, .int l4)] [] I L G D S) : ∀ (l4 : Int32) (I : JI) (L : JL) (G : JG) (D : JG) (S : JS), Lay G S → S[136]? = some (23, 1) → fL_law_1130 E.2.2.2 k23 l4 I L G D S = some 1 → AtJ E xL_law Zlaw (601024, 7293034) 200 1130 [(0, .ref (E.2.2.2 103)), (1, .ref (E.1 + 0)), (2, .ref (E.1 + 66)), (3, .ref (E.1 + 136)), (4, .int l4)] [] I L G D S := by
  intro l4 I L G D S hL h3 h
  unfold fL_law_1130 at h
  refine j_aload_n 1131 dL_law_1130 rfl rfl 1 rfl ?_
  refine j_aload_n 1132 dL_law_1131 rfl rfl 0 rfl ?_
  refine j_iload 1134 dL_law_1132 rfl 4 rfl ?_
  refine j_iconst (v := (1 : Int32)) 1135 dL_law_1134 rfl (by decide) ?_
  refine j_iadd 1136 dL_law_1135 rfl ?_
  obtain ⟨hg, h⟩ := j_gs h
  refine j_sld 1137 dL_law_1136 rfl (j_inv hg) ?_
  refine j_aload_n 1138 dL_law_1137 rfl rfl 0 rfl ?_
  refine j_iload 1140 dL_law_1138 rfl 4 rfl ?_
  refine j_iconst (v := (2 : Int32)) 1141 dL_law_1140 rfl (by decide) ?_
  refine j_iadd 1142 dL_law_1141 rfl ?_
  obtain ⟨hg, h⟩ := j_gs h
  refine j_sld 1143 dL_law_1142 rfl (j_inv hg) ?_
  refine j_aload_n 1144 dL_law_1143 rfl rfl 0 rfl ?_
  refine j_iload 1146 dL_law_1144 rfl 4 rfl ?_
  refine j_iconst (v := (3 : Int32)) 1147 dL_law_1146 rfl (by decide) ?_
  refine j_iadd 1148 dL_law_1147 rfl ?_
  obtain ⟨hg, h⟩ := j_gs h
  refine j_sld 1149 dL_law_1148 rfl (j_inv hg) ?_
  obtain ⟨q32, hq32, h⟩ := j_bs h
  refine j_callV (rest := []) (As := [.int (nI (E.2.2.2 (1000 + (l4 + (1 : Int32)).toNatClampNeg))), .int (nI (E.2.2.2 (1000 + (l4 + (2 : Int32)).toNatClampNeg))), .int (nI (E.2.2.2 (1000 + (l4 + (3 : Int32)).toNatClampNeg)))]) 1152 dL_law_1149 rfl jyX11_hears (tcX11_hears hL  hq32) (sh_0 hL) cl11 flL_103 wm1016 wm1017 (by decide) rfl rfl (Nat.le_of_ble_eq_true rfl) ?_
  refine j_aload_n 1153 dL_law_1152 rfl rfl 2 rfl ?_
  refine j_aload_n 1154 dL_law_1153 rfl rfl 0 rfl ?_
  refine j_iload 1156 dL_law_1154 rfl 4 rfl ?_
  refine j_iconst (v := (1 : Int32)) 1157 dL_law_1156 rfl (by decide) ?_
  refine j_iadd 1158 dL_law_1157 rfl ?_
  obtain ⟨hg, h⟩ := j_gs h
  refine j_sld 1159 dL_law_1158 rfl (j_inv hg) ?_
  refine j_aload_n 1160 dL_law_1159 rfl rfl 0 rfl ?_
  refine j_iload 1162 dL_law_1160 rfl 4 rfl ?_
  refine j_iconst (v := (2 : Int32)) 1163 dL_law_1162 rfl (by decide) ?_
  refine j_iadd 1164 dL_law_1163 rfl ?_
  obtain ⟨hg, h⟩ := j_gs h
  refine j_sld 1165 dL_law_1164 rfl (j_inv hg) ?_
  refine j_aload_n 1166 dL_law_1165 rfl rfl 0 rfl ?_
  refine j_iload 1168 dL_law_1166 rfl 4 rfl ?_
  refine j_iconst (v := (3 : Int32)) 1169 dL_law_1168 rfl (by decide) ?_
  refine j_iadd 1170 dL_law_1169 rfl ?_
  obtain ⟨hg, h⟩ := j_gs h
  refine j_sld 1171 dL_law_1170 rfl (j_inv hg) ?_
  obtain ⟨q33, hq33, h⟩ := j_bs h
  refine j_callV (rest := [.int q32.1]) (As := [.int (nI (E.2.2.2 (1000 + (l4 + (1 : Int32)).toNatClampNeg))), .int (nI (E.2.2.2 (1000 + (l4 + (2 : Int32)).toNatClampNeg))), .int (nI (E.2.2.2 (1000 + (l4 + (3 : Int32)).toNatClampNeg)))]) 1174 dL_law_1171 rfl jyX12_hears (tcX12_hears hL  hq33) (sh_66 hL) cl12 flL_106 wm1933 wm1934 (by decide) rfl rfl (Nat.le_of_ble_eq_true rfl) ?_
  refine j_icmp_eq 1823 1177 dL_law_1174 (by decide) rfl (fun hc => ?_) (fun hc => ?_)
  · replace h := j_pos hc h
    refine j_iinc (v := (l4 + (8 : Int32))) (lv' := [(4, .int (l4 + (8 : Int32))), (0, .ref (E.2.2.2 103)), (1, .ref (E.1 + 0)), (2, .ref (E.1 + 66)), (3, .ref (E.1 + 136))]) (q := 4) 1826 dL_law_1823 rfl rfl rfl (by decide) rfl ?_
    refine j_goto 23 dL_law_1826 (by decide) ?_
    refine j_sub [1, 2, 3, 4, 0] rfl ?_
    exact H23 _ _ _ _ _ _ hL h3 h
  · replace h := j_neg hc h
    refine j_iconst (v := (0 : Int32)) 1178 dL_law_1177 rfl (by decide) ?_
    exact absurd (Option.some.inj h) (by decide)
def fL_law_1179 (e : Nat → Nat) (k23 : Int32 → JI → JL → JG → JG → JS → Option Int32) (l4 : Int32) (I : JI) (L : JL) (G : JG) (D : JG) (S : JS) : Option Int32 :=
  j_g (j_in (l4 + (1 : Int32)) (e 104)) (j_g (j_in (l4 + (2 : Int32)) (e 104)) ((fX11_till (nI (e (1000 + (l4 + (1 : Int32)).toNatClampNeg))) (nI (e (1000 + (l4 + (2 : Int32)).toNatClampNeg))) I D S).bind (fun q34 => j_g (j_in (l4 + (1 : Int32)) (e 104)) (j_g (j_in (l4 + (2 : Int32)) (e 104)) ((fX12_till (nI (e (1000 + (l4 + (1 : Int32)).toNatClampNeg))) (nI (e (1000 + (l4 + (2 : Int32)).toNatClampNeg))) I).bind (fun q35 => if q34 = q35.1 then (k23 (l4 + (8 : Int32)) q35.2 L G D S) else (some (0 : Int32))))))))
set_option maxHeartbeats 4000000 in
set_option maxRecDepth 100000 in
theorem kL_law_1179 {E : JE} {k23 : Int32 → JI → JL → JG → JG → JS → Option Int32} (H23 : ∀ (l4 : Int32) (I : JI) (L : JL) (G : JG) (D : JG) (S : JS), Lay G S → S[136]? = some (23, 1) → k23 l4 I L G D S = some 1 → AtJ E xL_law Zlaw (601024, 7293034) 200 23 [(0, .ref (E.2.2.2 103)), (1, .ref (E.1 + 0)), (2, .ref (E.1 + 66)), (3, .ref (E.1 + 136)), (4, .int l4)] [] I L G D S) : ∀ (l4 : Int32) (I : JI) (L : JL) (G : JG) (D : JG) (S : JS), Lay G S → S[136]? = some (23, 1) → fL_law_1179 E.2.2.2 k23 l4 I L G D S = some 1 → AtJ E xL_law Zlaw (601024, 7293034) 200 1179 [(0, .ref (E.2.2.2 103)), (1, .ref (E.1 + 0)), (2, .ref (E.1 + 66)), (3, .ref (E.1 + 136)), (4, .int l4)] [] I L G D S := by
  intro l4 I L G D S hL h3 h
  unfold fL_law_1179 at h
  refine j_aload_n 1180 dL_law_1179 rfl rfl 1 rfl ?_
  refine j_aload_n 1181 dL_law_1180 rfl rfl 0 rfl ?_
  refine j_iload 1183 dL_law_1181 rfl 4 rfl ?_
  refine j_iconst (v := (1 : Int32)) 1184 dL_law_1183 rfl (by decide) ?_
  refine j_iadd 1185 dL_law_1184 rfl ?_
  obtain ⟨hg, h⟩ := j_gs h
  refine j_sld 1186 dL_law_1185 rfl (j_inv hg) ?_
  refine j_aload_n 1187 dL_law_1186 rfl rfl 0 rfl ?_
  refine j_iload 1189 dL_law_1187 rfl 4 rfl ?_
  refine j_iconst (v := (2 : Int32)) 1190 dL_law_1189 rfl (by decide) ?_
  refine j_iadd 1191 dL_law_1190 rfl ?_
  obtain ⟨hg, h⟩ := j_gs h
  refine j_sld 1192 dL_law_1191 rfl (j_inv hg) ?_
  obtain ⟨q34, hq34, h⟩ := j_bs h
  refine j_callV (rest := []) (As := [.int (nI (E.2.2.2 (1000 + (l4 + (1 : Int32)).toNatClampNeg))), .int (nI (E.2.2.2 (1000 + (l4 + (2 : Int32)).toNatClampNeg)))]) 1195 dL_law_1192 rfl jyX11_till (tcX11_till hL  hq34) (sh_0 hL) cl11 flL_107 wm1020 wm1021 (by decide) rfl rfl (Nat.le_of_ble_eq_true rfl) ?_
  refine j_aload_n 1196 dL_law_1195 rfl rfl 2 rfl ?_
  refine j_aload_n 1197 dL_law_1196 rfl rfl 0 rfl ?_
  refine j_iload 1199 dL_law_1197 rfl 4 rfl ?_
  refine j_iconst (v := (1 : Int32)) 1200 dL_law_1199 rfl (by decide) ?_
  refine j_iadd 1201 dL_law_1200 rfl ?_
  obtain ⟨hg, h⟩ := j_gs h
  refine j_sld 1202 dL_law_1201 rfl (j_inv hg) ?_
  refine j_aload_n 1203 dL_law_1202 rfl rfl 0 rfl ?_
  refine j_iload 1205 dL_law_1203 rfl 4 rfl ?_
  refine j_iconst (v := (2 : Int32)) 1206 dL_law_1205 rfl (by decide) ?_
  refine j_iadd 1207 dL_law_1206 rfl ?_
  obtain ⟨hg, h⟩ := j_gs h
  refine j_sld 1208 dL_law_1207 rfl (j_inv hg) ?_
  obtain ⟨q35, hq35, h⟩ := j_bs h
  refine j_callV (rest := [.int q34]) (As := [.int (nI (E.2.2.2 (1000 + (l4 + (1 : Int32)).toNatClampNeg))), .int (nI (E.2.2.2 (1000 + (l4 + (2 : Int32)).toNatClampNeg)))]) 1211 dL_law_1208 rfl jyX12_till (tcX12_till hL  hq35) (sh_66 hL) cl12 flL_110 wm1937 wm1938 (by decide) rfl rfl (Nat.le_of_ble_eq_true rfl) ?_
  refine j_icmp_eq 1823 1214 dL_law_1211 (by decide) rfl (fun hc => ?_) (fun hc => ?_)
  · replace h := j_pos hc h
    refine j_iinc (v := (l4 + (8 : Int32))) (lv' := [(4, .int (l4 + (8 : Int32))), (0, .ref (E.2.2.2 103)), (1, .ref (E.1 + 0)), (2, .ref (E.1 + 66)), (3, .ref (E.1 + 136))]) (q := 4) 1826 dL_law_1823 rfl rfl rfl (by decide) rfl ?_
    refine j_goto 23 dL_law_1826 (by decide) ?_
    refine j_sub [1, 2, 3, 4, 0] rfl ?_
    exact H23 _ _ _ _ _ _ hL h3 h
  · replace h := j_neg hc h
    refine j_iconst (v := (0 : Int32)) 1215 dL_law_1214 rfl (by decide) ?_
    exact absurd (Option.some.inj h) (by decide)
def fL_law_1216 (e : Nat → Nat) (k23 : Int32 → JI → JL → JG → JG → JS → Option Int32) (l4 : Int32) (I : JI) (L : JL) (G : JG) (D : JG) (S : JS) : Option Int32 :=
  j_g (j_in (l4 + (1 : Int32)) (e 104)) (j_g (j_in (l4 + (2 : Int32)) (e 104)) ((fX11_waive (nI (e (1000 + (l4 + (1 : Int32)).toNatClampNeg))) (nI (e (1000 + (l4 + (2 : Int32)).toNatClampNeg))) I D S).bind (fun q36 => j_g (j_in (l4 + (1 : Int32)) (e 104)) (j_g (j_in (l4 + (2 : Int32)) (e 104)) ((fX12_waive (nI (e (1000 + (l4 + (1 : Int32)).toNatClampNeg))) (nI (e (1000 + (l4 + (2 : Int32)).toNatClampNeg))) q36.2).bind (fun q37 => if q36.1 = q37.1 then (k23 (l4 + (8 : Int32)) q37.2 L G D S) else (some (0 : Int32))))))))
set_option maxHeartbeats 4000000 in
set_option maxRecDepth 100000 in
theorem kL_law_1216 {E : JE} {k23 : Int32 → JI → JL → JG → JG → JS → Option Int32} (H23 : ∀ (l4 : Int32) (I : JI) (L : JL) (G : JG) (D : JG) (S : JS), Lay G S → S[136]? = some (23, 1) → k23 l4 I L G D S = some 1 → AtJ E xL_law Zlaw (601024, 7293034) 200 23 [(0, .ref (E.2.2.2 103)), (1, .ref (E.1 + 0)), (2, .ref (E.1 + 66)), (3, .ref (E.1 + 136)), (4, .int l4)] [] I L G D S) : ∀ (l4 : Int32) (I : JI) (L : JL) (G : JG) (D : JG) (S : JS), Lay G S → S[136]? = some (23, 1) → fL_law_1216 E.2.2.2 k23 l4 I L G D S = some 1 → AtJ E xL_law Zlaw (601024, 7293034) 200 1216 [(0, .ref (E.2.2.2 103)), (1, .ref (E.1 + 0)), (2, .ref (E.1 + 66)), (3, .ref (E.1 + 136)), (4, .int l4)] [] I L G D S := by
  intro l4 I L G D S hL h3 h
  unfold fL_law_1216 at h
  refine j_aload_n 1217 dL_law_1216 rfl rfl 1 rfl ?_
  refine j_aload_n 1218 dL_law_1217 rfl rfl 0 rfl ?_
  refine j_iload 1220 dL_law_1218 rfl 4 rfl ?_
  refine j_iconst (v := (1 : Int32)) 1221 dL_law_1220 rfl (by decide) ?_
  refine j_iadd 1222 dL_law_1221 rfl ?_
  obtain ⟨hg, h⟩ := j_gs h
  refine j_sld 1223 dL_law_1222 rfl (j_inv hg) ?_
  refine j_aload_n 1224 dL_law_1223 rfl rfl 0 rfl ?_
  refine j_iload 1226 dL_law_1224 rfl 4 rfl ?_
  refine j_iconst (v := (2 : Int32)) 1227 dL_law_1226 rfl (by decide) ?_
  refine j_iadd 1228 dL_law_1227 rfl ?_
  obtain ⟨hg, h⟩ := j_gs h
  refine j_sld 1229 dL_law_1228 rfl (j_inv hg) ?_
  obtain ⟨q36, hq36, h⟩ := j_bs h
  refine j_callV (rest := []) (As := [.int (nI (E.2.2.2 (1000 + (l4 + (1 : Int32)).toNatClampNeg))), .int (nI (E.2.2.2 (1000 + (l4 + (2 : Int32)).toNatClampNeg)))]) 1232 dL_law_1229 rfl jyX11_waive (tcX11_waive hL  hq36) (sh_0 hL) cl11 flL_111 wm1024 wm1025 (by decide) rfl rfl (Nat.le_of_ble_eq_true rfl) ?_
  refine j_aload_n 1233 dL_law_1232 rfl rfl 2 rfl ?_
  refine j_aload_n 1234 dL_law_1233 rfl rfl 0 rfl ?_
  refine j_iload 1236 dL_law_1234 rfl 4 rfl ?_
  refine j_iconst (v := (1 : Int32)) 1237 dL_law_1236 rfl (by decide) ?_
  refine j_iadd 1238 dL_law_1237 rfl ?_
  obtain ⟨hg, h⟩ := j_gs h
  refine j_sld 1239 dL_law_1238 rfl (j_inv hg) ?_
  refine j_aload_n 1240 dL_law_1239 rfl rfl 0 rfl ?_
  refine j_iload 1242 dL_law_1240 rfl 4 rfl ?_
  refine j_iconst (v := (2 : Int32)) 1243 dL_law_1242 rfl (by decide) ?_
  refine j_iadd 1244 dL_law_1243 rfl ?_
  obtain ⟨hg, h⟩ := j_gs h
  refine j_sld 1245 dL_law_1244 rfl (j_inv hg) ?_
  obtain ⟨q37, hq37, h⟩ := j_bs h
  refine j_callV (rest := [.int q36.1]) (As := [.int (nI (E.2.2.2 (1000 + (l4 + (1 : Int32)).toNatClampNeg))), .int (nI (E.2.2.2 (1000 + (l4 + (2 : Int32)).toNatClampNeg)))]) 1248 dL_law_1245 rfl jyX12_waive (tcX12_waive hL  hq37) (sh_66 hL) cl12 flL_114 wm1941 wm1942 (by decide) rfl rfl (Nat.le_of_ble_eq_true rfl) ?_
  refine j_icmp_eq 1823 1251 dL_law_1248 (by decide) rfl (fun hc => ?_) (fun hc => ?_)
  · replace h := j_pos hc h
    refine j_iinc (v := (l4 + (8 : Int32))) (lv' := [(4, .int (l4 + (8 : Int32))), (0, .ref (E.2.2.2 103)), (1, .ref (E.1 + 0)), (2, .ref (E.1 + 66)), (3, .ref (E.1 + 136))]) (q := 4) 1826 dL_law_1823 rfl rfl rfl (by decide) rfl ?_
    refine j_goto 23 dL_law_1826 (by decide) ?_
    refine j_sub [1, 2, 3, 4, 0] rfl ?_
    exact H23 _ _ _ _ _ _ hL h3 h
  · replace h := j_neg hc h
    refine j_iconst (v := (0 : Int32)) 1252 dL_law_1251 rfl (by decide) ?_
    exact absurd (Option.some.inj h) (by decide)
def fL_law_1253 (e : Nat → Nat) (k23 : Int32 → JI → JL → JG → JG → JS → Option Int32) (l4 : Int32) (I : JI) (L : JL) (G : JG) (D : JG) (S : JS) : Option Int32 :=
  j_g (j_in (l4 + (1 : Int32)) (e 104)) (j_g (j_in (l4 + (2 : Int32)) (e 104)) ((fX11_truly (nI (e (1000 + (l4 + (1 : Int32)).toNatClampNeg))) (nI (e (1000 + (l4 + (2 : Int32)).toNatClampNeg))) I D S).bind (fun q38 => j_g (j_in (l4 + (1 : Int32)) (e 104)) (j_g (j_in (l4 + (2 : Int32)) (e 104)) ((fX12_truly (nI (e (1000 + (l4 + (1 : Int32)).toNatClampNeg))) (nI (e (1000 + (l4 + (2 : Int32)).toNatClampNeg))) q38.2).bind (fun q39 => if q38.1 = q39.1 then (k23 (l4 + (8 : Int32)) q39.2 L G D S) else (some (0 : Int32))))))))
set_option maxHeartbeats 4000000 in
set_option maxRecDepth 100000 in
theorem kL_law_1253 {E : JE} {k23 : Int32 → JI → JL → JG → JG → JS → Option Int32} (H23 : ∀ (l4 : Int32) (I : JI) (L : JL) (G : JG) (D : JG) (S : JS), Lay G S → S[136]? = some (23, 1) → k23 l4 I L G D S = some 1 → AtJ E xL_law Zlaw (601024, 7293034) 200 23 [(0, .ref (E.2.2.2 103)), (1, .ref (E.1 + 0)), (2, .ref (E.1 + 66)), (3, .ref (E.1 + 136)), (4, .int l4)] [] I L G D S) : ∀ (l4 : Int32) (I : JI) (L : JL) (G : JG) (D : JG) (S : JS), Lay G S → S[136]? = some (23, 1) → fL_law_1253 E.2.2.2 k23 l4 I L G D S = some 1 → AtJ E xL_law Zlaw (601024, 7293034) 200 1253 [(0, .ref (E.2.2.2 103)), (1, .ref (E.1 + 0)), (2, .ref (E.1 + 66)), (3, .ref (E.1 + 136)), (4, .int l4)] [] I L G D S := by
  intro l4 I L G D S hL h3 h
  unfold fL_law_1253 at h
  refine j_aload_n 1254 dL_law_1253 rfl rfl 1 rfl ?_
  refine j_aload_n 1255 dL_law_1254 rfl rfl 0 rfl ?_
  refine j_iload 1257 dL_law_1255 rfl 4 rfl ?_
  refine j_iconst (v := (1 : Int32)) 1258 dL_law_1257 rfl (by decide) ?_
  refine j_iadd 1259 dL_law_1258 rfl ?_
  obtain ⟨hg, h⟩ := j_gs h
  refine j_sld 1260 dL_law_1259 rfl (j_inv hg) ?_
  refine j_aload_n 1261 dL_law_1260 rfl rfl 0 rfl ?_
  refine j_iload 1263 dL_law_1261 rfl 4 rfl ?_
  refine j_iconst (v := (2 : Int32)) 1264 dL_law_1263 rfl (by decide) ?_
  refine j_iadd 1265 dL_law_1264 rfl ?_
  obtain ⟨hg, h⟩ := j_gs h
  refine j_sld 1266 dL_law_1265 rfl (j_inv hg) ?_
  obtain ⟨q38, hq38, h⟩ := j_bs h
  refine j_callV (rest := []) (As := [.int (nI (E.2.2.2 (1000 + (l4 + (1 : Int32)).toNatClampNeg))), .int (nI (E.2.2.2 (1000 + (l4 + (2 : Int32)).toNatClampNeg)))]) 1269 dL_law_1266 rfl jyX11_truly (tcX11_truly hL  hq38) (sh_0 hL) cl11 flL_115 wm1032 wm1033 (by decide) rfl rfl (Nat.le_of_ble_eq_true rfl) ?_
  refine j_aload_n 1270 dL_law_1269 rfl rfl 2 rfl ?_
  refine j_aload_n 1271 dL_law_1270 rfl rfl 0 rfl ?_
  refine j_iload 1273 dL_law_1271 rfl 4 rfl ?_
  refine j_iconst (v := (1 : Int32)) 1274 dL_law_1273 rfl (by decide) ?_
  refine j_iadd 1275 dL_law_1274 rfl ?_
  obtain ⟨hg, h⟩ := j_gs h
  refine j_sld 1276 dL_law_1275 rfl (j_inv hg) ?_
  refine j_aload_n 1277 dL_law_1276 rfl rfl 0 rfl ?_
  refine j_iload 1279 dL_law_1277 rfl 4 rfl ?_
  refine j_iconst (v := (2 : Int32)) 1280 dL_law_1279 rfl (by decide) ?_
  refine j_iadd 1281 dL_law_1280 rfl ?_
  obtain ⟨hg, h⟩ := j_gs h
  refine j_sld 1282 dL_law_1281 rfl (j_inv hg) ?_
  obtain ⟨q39, hq39, h⟩ := j_bs h
  refine j_callV (rest := [.int q38.1]) (As := [.int (nI (E.2.2.2 (1000 + (l4 + (1 : Int32)).toNatClampNeg))), .int (nI (E.2.2.2 (1000 + (l4 + (2 : Int32)).toNatClampNeg)))]) 1285 dL_law_1282 rfl jyX12_truly (tcX12_truly hL  hq39) (sh_66 hL) cl12 flL_118 wm1945 wm1946 (by decide) rfl rfl (Nat.le_of_ble_eq_true rfl) ?_
  refine j_icmp_eq 1823 1288 dL_law_1285 (by decide) rfl (fun hc => ?_) (fun hc => ?_)
  · replace h := j_pos hc h
    refine j_iinc (v := (l4 + (8 : Int32))) (lv' := [(4, .int (l4 + (8 : Int32))), (0, .ref (E.2.2.2 103)), (1, .ref (E.1 + 0)), (2, .ref (E.1 + 66)), (3, .ref (E.1 + 136))]) (q := 4) 1826 dL_law_1823 rfl rfl rfl (by decide) rfl ?_
    refine j_goto 23 dL_law_1826 (by decide) ?_
    refine j_sub [1, 2, 3, 4, 0] rfl ?_
    exact H23 _ _ _ _ _ _ hL h3 h
  · replace h := j_neg hc h
    refine j_iconst (v := (0 : Int32)) 1289 dL_law_1288 rfl (by decide) ?_
    exact absurd (Option.some.inj h) (by decide)
def fL_law_1290 (e : Nat → Nat) (k23 : Int32 → JI → JL → JG → JG → JS → Option Int32) (l4 : Int32) (I : JI) (L : JL) (G : JG) (D : JG) (S : JS) : Option Int32 :=
  j_g (j_in (l4 + (1 : Int32)) (e 104)) (j_g (j_in (l4 + (2 : Int32)) (e 104)) (j_g (j_in (l4 + (3 : Int32)) (e 104)) ((fX11_claim (nI (e (1000 + (l4 + (1 : Int32)).toNatClampNeg))) (nI (e (1000 + (l4 + (2 : Int32)).toNatClampNeg))) (nI (e (1000 + (l4 + (3 : Int32)).toNatClampNeg))) I D S).bind (fun q40 => j_g (j_in (l4 + (1 : Int32)) (e 104)) (j_g (j_in (l4 + (2 : Int32)) (e 104)) (j_g (j_in (l4 + (3 : Int32)) (e 104)) ((fX12_claim (nI (e (1000 + (l4 + (1 : Int32)).toNatClampNeg))) (nI (e (1000 + (l4 + (2 : Int32)).toNatClampNeg))) (nI (e (1000 + (l4 + (3 : Int32)).toNatClampNeg))) q40.2).bind (fun q41 => if q40.1 = q41.1 then (k23 (l4 + (8 : Int32)) q41.2 L G D S) else (some (0 : Int32))))))))))
set_option maxHeartbeats 4000000 in
set_option maxRecDepth 100000 in
theorem kL_law_1290 {E : JE} {k23 : Int32 → JI → JL → JG → JG → JS → Option Int32} (H23 : ∀ (l4 : Int32) (I : JI) (L : JL) (G : JG) (D : JG) (S : JS), Lay G S → S[136]? = some (23, 1) → k23 l4 I L G D S = some 1 → AtJ E xL_law Zlaw (601024, 7293034) 200 23 [(0, .ref (E.2.2.2 103)), (1, .ref (E.1 + 0)), (2, .ref (E.1 + 66)), (3, .ref (E.1 + 136)), (4, .int l4)] [] I L G D S) : ∀ (l4 : Int32) (I : JI) (L : JL) (G : JG) (D : JG) (S : JS), Lay G S → S[136]? = some (23, 1) → fL_law_1290 E.2.2.2 k23 l4 I L G D S = some 1 → AtJ E xL_law Zlaw (601024, 7293034) 200 1290 [(0, .ref (E.2.2.2 103)), (1, .ref (E.1 + 0)), (2, .ref (E.1 + 66)), (3, .ref (E.1 + 136)), (4, .int l4)] [] I L G D S := by
  intro l4 I L G D S hL h3 h
  unfold fL_law_1290 at h
  refine j_aload_n 1291 dL_law_1290 rfl rfl 1 rfl ?_
  refine j_aload_n 1292 dL_law_1291 rfl rfl 0 rfl ?_
  refine j_iload 1294 dL_law_1292 rfl 4 rfl ?_
  refine j_iconst (v := (1 : Int32)) 1295 dL_law_1294 rfl (by decide) ?_
  refine j_iadd 1296 dL_law_1295 rfl ?_
  obtain ⟨hg, h⟩ := j_gs h
  refine j_sld 1297 dL_law_1296 rfl (j_inv hg) ?_
  refine j_aload_n 1298 dL_law_1297 rfl rfl 0 rfl ?_
  refine j_iload 1300 dL_law_1298 rfl 4 rfl ?_
  refine j_iconst (v := (2 : Int32)) 1301 dL_law_1300 rfl (by decide) ?_
  refine j_iadd 1302 dL_law_1301 rfl ?_
  obtain ⟨hg, h⟩ := j_gs h
  refine j_sld 1303 dL_law_1302 rfl (j_inv hg) ?_
  refine j_aload_n 1304 dL_law_1303 rfl rfl 0 rfl ?_
  refine j_iload 1306 dL_law_1304 rfl 4 rfl ?_
  refine j_iconst (v := (3 : Int32)) 1307 dL_law_1306 rfl (by decide) ?_
  refine j_iadd 1308 dL_law_1307 rfl ?_
  obtain ⟨hg, h⟩ := j_gs h
  refine j_sld 1309 dL_law_1308 rfl (j_inv hg) ?_
  obtain ⟨q40, hq40, h⟩ := j_bs h
  refine j_callV (rest := []) (As := [.int (nI (E.2.2.2 (1000 + (l4 + (1 : Int32)).toNatClampNeg))), .int (nI (E.2.2.2 (1000 + (l4 + (2 : Int32)).toNatClampNeg))), .int (nI (E.2.2.2 (1000 + (l4 + (3 : Int32)).toNatClampNeg)))]) 1312 dL_law_1309 rfl jyX11_claim (tcX11_claim hL  hq40) (sh_0 hL) cl11 flL_119 wm1041 wm1042 (by decide) rfl rfl (Nat.le_of_ble_eq_true rfl) ?_
  refine j_aload_n 1313 dL_law_1312 rfl rfl 2 rfl ?_
  refine j_aload_n 1314 dL_law_1313 rfl rfl 0 rfl ?_
  refine j_iload 1316 dL_law_1314 rfl 4 rfl ?_
  refine j_iconst (v := (1 : Int32)) 1317 dL_law_1316 rfl (by decide) ?_
  refine j_iadd 1318 dL_law_1317 rfl ?_
  obtain ⟨hg, h⟩ := j_gs h
  refine j_sld 1319 dL_law_1318 rfl (j_inv hg) ?_
  refine j_aload_n 1320 dL_law_1319 rfl rfl 0 rfl ?_
  refine j_iload 1322 dL_law_1320 rfl 4 rfl ?_
  refine j_iconst (v := (2 : Int32)) 1323 dL_law_1322 rfl (by decide) ?_
  refine j_iadd 1324 dL_law_1323 rfl ?_
  obtain ⟨hg, h⟩ := j_gs h
  refine j_sld 1325 dL_law_1324 rfl (j_inv hg) ?_
  refine j_aload_n 1326 dL_law_1325 rfl rfl 0 rfl ?_
  refine j_iload 1328 dL_law_1326 rfl 4 rfl ?_
  refine j_iconst (v := (3 : Int32)) 1329 dL_law_1328 rfl (by decide) ?_
  refine j_iadd 1330 dL_law_1329 rfl ?_
  obtain ⟨hg, h⟩ := j_gs h
  refine j_sld 1331 dL_law_1330 rfl (j_inv hg) ?_
  obtain ⟨q41, hq41, h⟩ := j_bs h
  refine j_callV (rest := [.int q40.1]) (As := [.int (nI (E.2.2.2 (1000 + (l4 + (1 : Int32)).toNatClampNeg))), .int (nI (E.2.2.2 (1000 + (l4 + (2 : Int32)).toNatClampNeg))), .int (nI (E.2.2.2 (1000 + (l4 + (3 : Int32)).toNatClampNeg)))]) 1334 dL_law_1331 rfl jyX12_claim (tcX12_claim hL  hq41) (sh_66 hL) cl12 flL_122 wm1949 wm1950 (by decide) rfl rfl (Nat.le_of_ble_eq_true rfl) ?_
  refine j_icmp_eq 1823 1337 dL_law_1334 (by decide) rfl (fun hc => ?_) (fun hc => ?_)
  · replace h := j_pos hc h
    refine j_iinc (v := (l4 + (8 : Int32))) (lv' := [(4, .int (l4 + (8 : Int32))), (0, .ref (E.2.2.2 103)), (1, .ref (E.1 + 0)), (2, .ref (E.1 + 66)), (3, .ref (E.1 + 136))]) (q := 4) 1826 dL_law_1823 rfl rfl rfl (by decide) rfl ?_
    refine j_goto 23 dL_law_1826 (by decide) ?_
    refine j_sub [1, 2, 3, 4, 0] rfl ?_
    exact H23 _ _ _ _ _ _ hL h3 h
  · replace h := j_neg hc h
    refine j_iconst (v := (0 : Int32)) 1338 dL_law_1337 rfl (by decide) ?_
    exact absurd (Option.some.inj h) (by decide)
def fL_law_1339 (e : Nat → Nat) (k23 : Int32 → JI → JL → JG → JG → JS → Option Int32) (l4 : Int32) (I : JI) (L : JL) (G : JG) (D : JG) (S : JS) : Option Int32 :=
  j_g (j_in (l4 + (1 : Int32)) (e 104)) (j_g (j_in (l4 + (2 : Int32)) (e 104)) ((fX11_parted (nI (e (1000 + (l4 + (1 : Int32)).toNatClampNeg))) (nI (e (1000 + (l4 + (2 : Int32)).toNatClampNeg))) I D S).bind (fun q42 => j_g (j_in (l4 + (1 : Int32)) (e 104)) (j_g (j_in (l4 + (2 : Int32)) (e 104)) ((fX12_parted (nI (e (1000 + (l4 + (1 : Int32)).toNatClampNeg))) (nI (e (1000 + (l4 + (2 : Int32)).toNatClampNeg))) I).bind (fun q43 => if q42 = q43.1 then (k23 (l4 + (8 : Int32)) q43.2 L G D S) else (some (0 : Int32))))))))
set_option maxHeartbeats 4000000 in
set_option maxRecDepth 100000 in
theorem kL_law_1339 {E : JE} {k23 : Int32 → JI → JL → JG → JG → JS → Option Int32} (H23 : ∀ (l4 : Int32) (I : JI) (L : JL) (G : JG) (D : JG) (S : JS), Lay G S → S[136]? = some (23, 1) → k23 l4 I L G D S = some 1 → AtJ E xL_law Zlaw (601024, 7293034) 200 23 [(0, .ref (E.2.2.2 103)), (1, .ref (E.1 + 0)), (2, .ref (E.1 + 66)), (3, .ref (E.1 + 136)), (4, .int l4)] [] I L G D S) : ∀ (l4 : Int32) (I : JI) (L : JL) (G : JG) (D : JG) (S : JS), Lay G S → S[136]? = some (23, 1) → fL_law_1339 E.2.2.2 k23 l4 I L G D S = some 1 → AtJ E xL_law Zlaw (601024, 7293034) 200 1339 [(0, .ref (E.2.2.2 103)), (1, .ref (E.1 + 0)), (2, .ref (E.1 + 66)), (3, .ref (E.1 + 136)), (4, .int l4)] [] I L G D S := by
  intro l4 I L G D S hL h3 h
  unfold fL_law_1339 at h
  refine j_aload_n 1340 dL_law_1339 rfl rfl 1 rfl ?_
  refine j_aload_n 1341 dL_law_1340 rfl rfl 0 rfl ?_
  refine j_iload 1343 dL_law_1341 rfl 4 rfl ?_
  refine j_iconst (v := (1 : Int32)) 1344 dL_law_1343 rfl (by decide) ?_
  refine j_iadd 1345 dL_law_1344 rfl ?_
  obtain ⟨hg, h⟩ := j_gs h
  refine j_sld 1346 dL_law_1345 rfl (j_inv hg) ?_
  refine j_aload_n 1347 dL_law_1346 rfl rfl 0 rfl ?_
  refine j_iload 1349 dL_law_1347 rfl 4 rfl ?_
  refine j_iconst (v := (2 : Int32)) 1350 dL_law_1349 rfl (by decide) ?_
  refine j_iadd 1351 dL_law_1350 rfl ?_
  obtain ⟨hg, h⟩ := j_gs h
  refine j_sld 1352 dL_law_1351 rfl (j_inv hg) ?_
  obtain ⟨q42, hq42, h⟩ := j_bs h
  refine j_callV (rest := []) (As := [.int (nI (E.2.2.2 (1000 + (l4 + (1 : Int32)).toNatClampNeg))), .int (nI (E.2.2.2 (1000 + (l4 + (2 : Int32)).toNatClampNeg)))]) 1355 dL_law_1352 rfl jyX11_parted (tcX11_parted hL  hq42) (sh_0 hL) cl11 flL_123 wm1064 wm1065 (by decide) rfl rfl (Nat.le_of_ble_eq_true rfl) ?_
  refine j_aload_n 1356 dL_law_1355 rfl rfl 2 rfl ?_
  refine j_aload_n 1357 dL_law_1356 rfl rfl 0 rfl ?_
  refine j_iload 1359 dL_law_1357 rfl 4 rfl ?_
  refine j_iconst (v := (1 : Int32)) 1360 dL_law_1359 rfl (by decide) ?_
  refine j_iadd 1361 dL_law_1360 rfl ?_
  obtain ⟨hg, h⟩ := j_gs h
  refine j_sld 1362 dL_law_1361 rfl (j_inv hg) ?_
  refine j_aload_n 1363 dL_law_1362 rfl rfl 0 rfl ?_
  refine j_iload 1365 dL_law_1363 rfl 4 rfl ?_
  refine j_iconst (v := (2 : Int32)) 1366 dL_law_1365 rfl (by decide) ?_
  refine j_iadd 1367 dL_law_1366 rfl ?_
  obtain ⟨hg, h⟩ := j_gs h
  refine j_sld 1368 dL_law_1367 rfl (j_inv hg) ?_
  obtain ⟨q43, hq43, h⟩ := j_bs h
  refine j_callV (rest := [.int q42]) (As := [.int (nI (E.2.2.2 (1000 + (l4 + (1 : Int32)).toNatClampNeg))), .int (nI (E.2.2.2 (1000 + (l4 + (2 : Int32)).toNatClampNeg)))]) 1371 dL_law_1368 rfl jyX12_parted (tcX12_parted hL  hq43) (sh_66 hL) cl12 flL_126 wm1957 wm1958 (by decide) rfl rfl (Nat.le_of_ble_eq_true rfl) ?_
  refine j_icmp_eq 1823 1374 dL_law_1371 (by decide) rfl (fun hc => ?_) (fun hc => ?_)
  · replace h := j_pos hc h
    refine j_iinc (v := (l4 + (8 : Int32))) (lv' := [(4, .int (l4 + (8 : Int32))), (0, .ref (E.2.2.2 103)), (1, .ref (E.1 + 0)), (2, .ref (E.1 + 66)), (3, .ref (E.1 + 136))]) (q := 4) 1826 dL_law_1823 rfl rfl rfl (by decide) rfl ?_
    refine j_goto 23 dL_law_1826 (by decide) ?_
    refine j_sub [1, 2, 3, 4, 0] rfl ?_
    exact H23 _ _ _ _ _ _ hL h3 h
  · replace h := j_neg hc h
    refine j_iconst (v := (0 : Int32)) 1375 dL_law_1374 rfl (by decide) ?_
    exact absurd (Option.some.inj h) (by decide)
def fL_law_1376 (e : Nat → Nat) (k23 : Int32 → JI → JL → JG → JG → JS → Option Int32) (l4 : Int32) (I : JI) (L : JL) (G : JG) (D : JG) (S : JS) : Option Int32 :=
  j_g (j_in (l4 + (1 : Int32)) (e 104)) (j_g (j_in (l4 + (2 : Int32)) (e 104)) (j_g (j_in (l4 + (3 : Int32)) (e 104)) (j_g (j_in (l4 + (4 : Int32)) (e 104)) ((fX11_sly (nI (e (1000 + (l4 + (1 : Int32)).toNatClampNeg))) (nI (e (1000 + (l4 + (2 : Int32)).toNatClampNeg))) (nI (e (1000 + (l4 + (3 : Int32)).toNatClampNeg))) (nI (e (1000 + (l4 + (4 : Int32)).toNatClampNeg))) I L D S).bind (fun q44 => j_g (j_in (l4 + (1 : Int32)) (e 104)) (j_g (j_in (l4 + (2 : Int32)) (e 104)) (j_g (j_in (l4 + (3 : Int32)) (e 104)) (j_g (j_in (l4 + (4 : Int32)) (e 104)) ((fX12_sly (nI (e (1000 + (l4 + (1 : Int32)).toNatClampNeg))) (nI (e (1000 + (l4 + (2 : Int32)).toNatClampNeg))) (nI (e (1000 + (l4 + (3 : Int32)).toNatClampNeg))) (nI (e (1000 + (l4 + (4 : Int32)).toNatClampNeg))) q44.2.1).bind (fun q45 => if q44.1 = q45.1 then (k23 (l4 + (8 : Int32)) q45.2 L G q44.2.2 S) else (some (0 : Int32))))))))))))
set_option maxHeartbeats 4000000 in
set_option maxRecDepth 100000 in
theorem kL_law_1376 {E : JE} {k23 : Int32 → JI → JL → JG → JG → JS → Option Int32} (H23 : ∀ (l4 : Int32) (I : JI) (L : JL) (G : JG) (D : JG) (S : JS), Lay G S → S[136]? = some (23, 1) → k23 l4 I L G D S = some 1 → AtJ E xL_law Zlaw (601024, 7293034) 200 23 [(0, .ref (E.2.2.2 103)), (1, .ref (E.1 + 0)), (2, .ref (E.1 + 66)), (3, .ref (E.1 + 136)), (4, .int l4)] [] I L G D S) : ∀ (l4 : Int32) (I : JI) (L : JL) (G : JG) (D : JG) (S : JS), Lay G S → S[136]? = some (23, 1) → fL_law_1376 E.2.2.2 k23 l4 I L G D S = some 1 → AtJ E xL_law Zlaw (601024, 7293034) 200 1376 [(0, .ref (E.2.2.2 103)), (1, .ref (E.1 + 0)), (2, .ref (E.1 + 66)), (3, .ref (E.1 + 136)), (4, .int l4)] [] I L G D S := by
  intro l4 I L G D S hL h3 h
  unfold fL_law_1376 at h
  refine j_aload_n 1377 dL_law_1376 rfl rfl 1 rfl ?_
  refine j_aload_n 1378 dL_law_1377 rfl rfl 0 rfl ?_
  refine j_iload 1380 dL_law_1378 rfl 4 rfl ?_
  refine j_iconst (v := (1 : Int32)) 1381 dL_law_1380 rfl (by decide) ?_
  refine j_iadd 1382 dL_law_1381 rfl ?_
  obtain ⟨hg, h⟩ := j_gs h
  refine j_sld 1383 dL_law_1382 rfl (j_inv hg) ?_
  refine j_aload_n 1384 dL_law_1383 rfl rfl 0 rfl ?_
  refine j_iload 1386 dL_law_1384 rfl 4 rfl ?_
  refine j_iconst (v := (2 : Int32)) 1387 dL_law_1386 rfl (by decide) ?_
  refine j_iadd 1388 dL_law_1387 rfl ?_
  obtain ⟨hg, h⟩ := j_gs h
  refine j_sld 1389 dL_law_1388 rfl (j_inv hg) ?_
  refine j_aload_n 1390 dL_law_1389 rfl rfl 0 rfl ?_
  refine j_iload 1392 dL_law_1390 rfl 4 rfl ?_
  refine j_iconst (v := (3 : Int32)) 1393 dL_law_1392 rfl (by decide) ?_
  refine j_iadd 1394 dL_law_1393 rfl ?_
  obtain ⟨hg, h⟩ := j_gs h
  refine j_sld 1395 dL_law_1394 rfl (j_inv hg) ?_
  refine j_aload_n 1396 dL_law_1395 rfl rfl 0 rfl ?_
  refine j_iload 1398 dL_law_1396 rfl 4 rfl ?_
  refine j_iconst (v := (4 : Int32)) 1399 dL_law_1398 rfl (by decide) ?_
  refine j_iadd 1400 dL_law_1399 rfl ?_
  obtain ⟨hg, h⟩ := j_gs h
  refine j_sld 1401 dL_law_1400 rfl (j_inv hg) ?_
  obtain ⟨q44, hq44, h⟩ := j_bs h
  refine j_callV (rest := []) (As := [.int (nI (E.2.2.2 (1000 + (l4 + (1 : Int32)).toNatClampNeg))), .int (nI (E.2.2.2 (1000 + (l4 + (2 : Int32)).toNatClampNeg))), .int (nI (E.2.2.2 (1000 + (l4 + (3 : Int32)).toNatClampNeg))), .int (nI (E.2.2.2 (1000 + (l4 + (4 : Int32)).toNatClampNeg)))]) 1404 dL_law_1401 rfl jyX11_sly (tcX11_sly hL  hq44) (sh_0 hL) cl11 flL_127 wm1076 wm1077 (by decide) rfl rfl (Nat.le_of_ble_eq_true rfl) ?_
  refine j_aload_n 1405 dL_law_1404 rfl rfl 2 rfl ?_
  refine j_aload_n 1406 dL_law_1405 rfl rfl 0 rfl ?_
  refine j_iload 1408 dL_law_1406 rfl 4 rfl ?_
  refine j_iconst (v := (1 : Int32)) 1409 dL_law_1408 rfl (by decide) ?_
  refine j_iadd 1410 dL_law_1409 rfl ?_
  obtain ⟨hg, h⟩ := j_gs h
  refine j_sld 1411 dL_law_1410 rfl (j_inv hg) ?_
  refine j_aload_n 1412 dL_law_1411 rfl rfl 0 rfl ?_
  refine j_iload 1414 dL_law_1412 rfl 4 rfl ?_
  refine j_iconst (v := (2 : Int32)) 1415 dL_law_1414 rfl (by decide) ?_
  refine j_iadd 1416 dL_law_1415 rfl ?_
  obtain ⟨hg, h⟩ := j_gs h
  refine j_sld 1417 dL_law_1416 rfl (j_inv hg) ?_
  refine j_aload_n 1418 dL_law_1417 rfl rfl 0 rfl ?_
  refine j_iload 1420 dL_law_1418 rfl 4 rfl ?_
  refine j_iconst (v := (3 : Int32)) 1421 dL_law_1420 rfl (by decide) ?_
  refine j_iadd 1422 dL_law_1421 rfl ?_
  obtain ⟨hg, h⟩ := j_gs h
  refine j_sld 1423 dL_law_1422 rfl (j_inv hg) ?_
  refine j_aload_n 1424 dL_law_1423 rfl rfl 0 rfl ?_
  refine j_iload 1426 dL_law_1424 rfl 4 rfl ?_
  refine j_iconst (v := (4 : Int32)) 1427 dL_law_1426 rfl (by decide) ?_
  refine j_iadd 1428 dL_law_1427 rfl ?_
  obtain ⟨hg, h⟩ := j_gs h
  refine j_sld 1429 dL_law_1428 rfl (j_inv hg) ?_
  obtain ⟨q45, hq45, h⟩ := j_bs h
  refine j_callV (rest := [.int q44.1]) (As := [.int (nI (E.2.2.2 (1000 + (l4 + (1 : Int32)).toNatClampNeg))), .int (nI (E.2.2.2 (1000 + (l4 + (2 : Int32)).toNatClampNeg))), .int (nI (E.2.2.2 (1000 + (l4 + (3 : Int32)).toNatClampNeg))), .int (nI (E.2.2.2 (1000 + (l4 + (4 : Int32)).toNatClampNeg)))]) 1432 dL_law_1429 rfl jyX12_sly (tcX12_sly hL  hq45) (sh_66 hL) cl12 flL_131 wm1961 wm1962 (by decide) rfl rfl (Nat.le_of_ble_eq_true rfl) ?_
  refine j_icmp_eq 1823 1435 dL_law_1432 (by decide) rfl (fun hc => ?_) (fun hc => ?_)
  · replace h := j_pos hc h
    refine j_iinc (v := (l4 + (8 : Int32))) (lv' := [(4, .int (l4 + (8 : Int32))), (0, .ref (E.2.2.2 103)), (1, .ref (E.1 + 0)), (2, .ref (E.1 + 66)), (3, .ref (E.1 + 136))]) (q := 4) 1826 dL_law_1823 rfl rfl rfl (by decide) rfl ?_
    refine j_goto 23 dL_law_1826 (by decide) ?_
    refine j_sub [1, 2, 3, 4, 0] rfl ?_
    exact H23 _ _ _ _ _ _ hL h3 h
  · replace h := j_neg hc h
    refine j_iconst (v := (0 : Int32)) 1436 dL_law_1435 rfl (by decide) ?_
    exact absurd (Option.some.inj h) (by decide)
def fL_law_1437 (e : Nat → Nat) (k23 : Int32 → JI → JL → JG → JG → JS → Option Int32) (l4 : Int32) (I : JI) (L : JL) (G : JG) (D : JG) (S : JS) : Option Int32 :=
  j_g (j_in (l4 + (1 : Int32)) (e 104)) (j_g (j_in (l4 + (2 : Int32)) (e 104)) (j_g (j_in (l4 + (3 : Int32)) (e 104)) (j_g (j_in (l4 + (4 : Int32)) (e 104)) (j_g (j_in (l4 + (5 : Int32)) (e 104)) (j_g (j_in (l4 + (6 : Int32)) (e 104)) ((fX11_slyRow (nI (e (1000 + (l4 + (1 : Int32)).toNatClampNeg))) (nI (e (1000 + (l4 + (2 : Int32)).toNatClampNeg))) (nI (e (1000 + (l4 + (3 : Int32)).toNatClampNeg))) (nI (e (1000 + (l4 + (4 : Int32)).toNatClampNeg))) (nI (e (1000 + (l4 + (5 : Int32)).toNatClampNeg))) (nI (e (1000 + (l4 + (6 : Int32)).toNatClampNeg))) I L D S).bind (fun q46 => j_g (j_in (l4 + (1 : Int32)) (e 104)) (j_g (j_in (l4 + (2 : Int32)) (e 104)) (j_g (j_in (l4 + (3 : Int32)) (e 104)) (j_g (j_in (l4 + (4 : Int32)) (e 104)) (j_g (j_in (l4 + (5 : Int32)) (e 104)) (j_g (j_in (l4 + (6 : Int32)) (e 104)) ((fX12_slyRow (nI (e (1000 + (l4 + (1 : Int32)).toNatClampNeg))) (nI (e (1000 + (l4 + (2 : Int32)).toNatClampNeg))) (nI (e (1000 + (l4 + (3 : Int32)).toNatClampNeg))) (nI (e (1000 + (l4 + (4 : Int32)).toNatClampNeg))) (nI (e (1000 + (l4 + (5 : Int32)).toNatClampNeg))) (nI (e (1000 + (l4 + (6 : Int32)).toNatClampNeg))) q46.2.1).bind (fun q47 => if q46.1 = q47.1 then (k23 (l4 + (8 : Int32)) q47.2 L G q46.2.2 S) else (some (0 : Int32))))))))))))))))
set_option maxHeartbeats 4000000 in
set_option maxRecDepth 100000 in
theorem kL_law_1437 {E : JE} {k23 : Int32 → JI → JL → JG → JG → JS → Option Int32} (H23 : ∀ (l4 : Int32) (I : JI) (L : JL) (G : JG) (D : JG) (S : JS), Lay G S → S[136]? = some (23, 1) → k23 l4 I L G D S = some 1 → AtJ E xL_law Zlaw (601024, 7293034) 200 23 [(0, .ref (E.2.2.2 103)), (1, .ref (E.1 + 0)), (2, .ref (E.1 + 66)), (3, .ref (E.1 + 136)), (4, .int l4)] [] I L G D S) : ∀ (l4 : Int32) (I : JI) (L : JL) (G : JG) (D : JG) (S : JS), Lay G S → S[136]? = some (23, 1) → fL_law_1437 E.2.2.2 k23 l4 I L G D S = some 1 → AtJ E xL_law Zlaw (601024, 7293034) 200 1437 [(0, .ref (E.2.2.2 103)), (1, .ref (E.1 + 0)), (2, .ref (E.1 + 66)), (3, .ref (E.1 + 136)), (4, .int l4)] [] I L G D S := by
  intro l4 I L G D S hL h3 h
  unfold fL_law_1437 at h
  refine j_aload_n 1438 dL_law_1437 rfl rfl 1 rfl ?_
  refine j_aload_n 1439 dL_law_1438 rfl rfl 0 rfl ?_
  refine j_iload 1441 dL_law_1439 rfl 4 rfl ?_
  refine j_iconst (v := (1 : Int32)) 1442 dL_law_1441 rfl (by decide) ?_
  refine j_iadd 1443 dL_law_1442 rfl ?_
  obtain ⟨hg, h⟩ := j_gs h
  refine j_sld 1444 dL_law_1443 rfl (j_inv hg) ?_
  refine j_aload_n 1445 dL_law_1444 rfl rfl 0 rfl ?_
  refine j_iload 1447 dL_law_1445 rfl 4 rfl ?_
  refine j_iconst (v := (2 : Int32)) 1448 dL_law_1447 rfl (by decide) ?_
  refine j_iadd 1449 dL_law_1448 rfl ?_
  obtain ⟨hg, h⟩ := j_gs h
  refine j_sld 1450 dL_law_1449 rfl (j_inv hg) ?_
  refine j_aload_n 1451 dL_law_1450 rfl rfl 0 rfl ?_
  refine j_iload 1453 dL_law_1451 rfl 4 rfl ?_
  refine j_iconst (v := (3 : Int32)) 1454 dL_law_1453 rfl (by decide) ?_
  refine j_iadd 1455 dL_law_1454 rfl ?_
  obtain ⟨hg, h⟩ := j_gs h
  refine j_sld 1456 dL_law_1455 rfl (j_inv hg) ?_
  refine j_aload_n 1457 dL_law_1456 rfl rfl 0 rfl ?_
  refine j_iload 1459 dL_law_1457 rfl 4 rfl ?_
  refine j_iconst (v := (4 : Int32)) 1460 dL_law_1459 rfl (by decide) ?_
  refine j_iadd 1461 dL_law_1460 rfl ?_
  obtain ⟨hg, h⟩ := j_gs h
  refine j_sld 1462 dL_law_1461 rfl (j_inv hg) ?_
  refine j_aload_n 1463 dL_law_1462 rfl rfl 0 rfl ?_
  refine j_iload 1465 dL_law_1463 rfl 4 rfl ?_
  refine j_iconst (v := (5 : Int32)) 1466 dL_law_1465 rfl (by decide) ?_
  refine j_iadd 1467 dL_law_1466 rfl ?_
  obtain ⟨hg, h⟩ := j_gs h
  refine j_sld 1468 dL_law_1467 rfl (j_inv hg) ?_
  refine j_aload_n 1469 dL_law_1468 rfl rfl 0 rfl ?_
  refine j_iload 1471 dL_law_1469 rfl 4 rfl ?_
  refine j_bipush (v := (6 : Int32)) 1473 dL_law_1471 rfl (by decide) ?_
  refine j_iadd 1474 dL_law_1473 rfl ?_
  obtain ⟨hg, h⟩ := j_gs h
  refine j_sld 1475 dL_law_1474 rfl (j_inv hg) ?_
  obtain ⟨q46, hq46, h⟩ := j_bs h
  refine j_callV (rest := []) (As := [.int (nI (E.2.2.2 (1000 + (l4 + (1 : Int32)).toNatClampNeg))), .int (nI (E.2.2.2 (1000 + (l4 + (2 : Int32)).toNatClampNeg))), .int (nI (E.2.2.2 (1000 + (l4 + (3 : Int32)).toNatClampNeg))), .int (nI (E.2.2.2 (1000 + (l4 + (4 : Int32)).toNatClampNeg))), .int (nI (E.2.2.2 (1000 + (l4 + (5 : Int32)).toNatClampNeg))), .int (nI (E.2.2.2 (1000 + (l4 + (6 : Int32)).toNatClampNeg)))]) 1478 dL_law_1475 rfl jyX11_slyRow (tcX11_slyRow hL  hq46) (sh_0 hL) cl11 flL_132 wm1152 wm1153 (by decide) rfl rfl (Nat.le_of_ble_eq_true rfl) ?_
  refine j_aload_n 1479 dL_law_1478 rfl rfl 2 rfl ?_
  refine j_aload_n 1480 dL_law_1479 rfl rfl 0 rfl ?_
  refine j_iload 1482 dL_law_1480 rfl 4 rfl ?_
  refine j_iconst (v := (1 : Int32)) 1483 dL_law_1482 rfl (by decide) ?_
  refine j_iadd 1484 dL_law_1483 rfl ?_
  obtain ⟨hg, h⟩ := j_gs h
  refine j_sld 1485 dL_law_1484 rfl (j_inv hg) ?_
  refine j_aload_n 1486 dL_law_1485 rfl rfl 0 rfl ?_
  refine j_iload 1488 dL_law_1486 rfl 4 rfl ?_
  refine j_iconst (v := (2 : Int32)) 1489 dL_law_1488 rfl (by decide) ?_
  refine j_iadd 1490 dL_law_1489 rfl ?_
  obtain ⟨hg, h⟩ := j_gs h
  refine j_sld 1491 dL_law_1490 rfl (j_inv hg) ?_
  refine j_aload_n 1492 dL_law_1491 rfl rfl 0 rfl ?_
  refine j_iload 1494 dL_law_1492 rfl 4 rfl ?_
  refine j_iconst (v := (3 : Int32)) 1495 dL_law_1494 rfl (by decide) ?_
  refine j_iadd 1496 dL_law_1495 rfl ?_
  obtain ⟨hg, h⟩ := j_gs h
  refine j_sld 1497 dL_law_1496 rfl (j_inv hg) ?_
  refine j_aload_n 1498 dL_law_1497 rfl rfl 0 rfl ?_
  refine j_iload 1500 dL_law_1498 rfl 4 rfl ?_
  refine j_iconst (v := (4 : Int32)) 1501 dL_law_1500 rfl (by decide) ?_
  refine j_iadd 1502 dL_law_1501 rfl ?_
  obtain ⟨hg, h⟩ := j_gs h
  refine j_sld 1503 dL_law_1502 rfl (j_inv hg) ?_
  refine j_aload_n 1504 dL_law_1503 rfl rfl 0 rfl ?_
  refine j_iload 1506 dL_law_1504 rfl 4 rfl ?_
  refine j_iconst (v := (5 : Int32)) 1507 dL_law_1506 rfl (by decide) ?_
  refine j_iadd 1508 dL_law_1507 rfl ?_
  obtain ⟨hg, h⟩ := j_gs h
  refine j_sld 1509 dL_law_1508 rfl (j_inv hg) ?_
  refine j_aload_n 1510 dL_law_1509 rfl rfl 0 rfl ?_
  refine j_iload 1512 dL_law_1510 rfl 4 rfl ?_
  refine j_bipush (v := (6 : Int32)) 1514 dL_law_1512 rfl (by decide) ?_
  refine j_iadd 1515 dL_law_1514 rfl ?_
  obtain ⟨hg, h⟩ := j_gs h
  refine j_sld 1516 dL_law_1515 rfl (j_inv hg) ?_
  obtain ⟨q47, hq47, h⟩ := j_bs h
  refine j_callV (rest := [.int q46.1]) (As := [.int (nI (E.2.2.2 (1000 + (l4 + (1 : Int32)).toNatClampNeg))), .int (nI (E.2.2.2 (1000 + (l4 + (2 : Int32)).toNatClampNeg))), .int (nI (E.2.2.2 (1000 + (l4 + (3 : Int32)).toNatClampNeg))), .int (nI (E.2.2.2 (1000 + (l4 + (4 : Int32)).toNatClampNeg))), .int (nI (E.2.2.2 (1000 + (l4 + (5 : Int32)).toNatClampNeg))), .int (nI (E.2.2.2 (1000 + (l4 + (6 : Int32)).toNatClampNeg)))]) 1519 dL_law_1516 rfl jyX12_slyRow (tcX12_slyRow hL  hq47) (sh_66 hL) cl12 flL_136 wm1985 wm1986 (by decide) rfl rfl (Nat.le_of_ble_eq_true rfl) ?_
  refine j_icmp_eq 1823 1522 dL_law_1519 (by decide) rfl (fun hc => ?_) (fun hc => ?_)
  · replace h := j_pos hc h
    refine j_iinc (v := (l4 + (8 : Int32))) (lv' := [(4, .int (l4 + (8 : Int32))), (0, .ref (E.2.2.2 103)), (1, .ref (E.1 + 0)), (2, .ref (E.1 + 66)), (3, .ref (E.1 + 136))]) (q := 4) 1826 dL_law_1823 rfl rfl rfl (by decide) rfl ?_
    refine j_goto 23 dL_law_1826 (by decide) ?_
    refine j_sub [1, 2, 3, 4, 0] rfl ?_
    exact H23 _ _ _ _ _ _ hL h3 h
  · replace h := j_neg hc h
    refine j_iconst (v := (0 : Int32)) 1523 dL_law_1522 rfl (by decide) ?_
    exact absurd (Option.some.inj h) (by decide)
def fL_law_1524 (e : Nat → Nat) (k23 : Int32 → JI → JL → JG → JG → JS → Option Int32) (l4 : Int32) (I : JI) (L : JL) (G : JG) (D : JG) (S : JS) : Option Int32 :=
  j_g (j_in (l4 + (1 : Int32)) (e 104)) (j_g (j_in (l4 + (2 : Int32)) (e 104)) (j_g (j_in (l4 + (3 : Int32)) (e 104)) (j_g (j_in (l4 + (4 : Int32)) (e 104)) ((fX11_far (nI (e (1000 + (l4 + (1 : Int32)).toNatClampNeg))) (nI (e (1000 + (l4 + (2 : Int32)).toNatClampNeg))) (nI (e (1000 + (l4 + (3 : Int32)).toNatClampNeg))) (nI (e (1000 + (l4 + (4 : Int32)).toNatClampNeg))) I L D S).bind (fun q48 => j_g (j_in (l4 + (1 : Int32)) (e 104)) (j_g (j_in (l4 + (2 : Int32)) (e 104)) (j_g (j_in (l4 + (3 : Int32)) (e 104)) (j_g (j_in (l4 + (4 : Int32)) (e 104)) ((fX12_far (nI (e (1000 + (l4 + (1 : Int32)).toNatClampNeg))) (nI (e (1000 + (l4 + (2 : Int32)).toNatClampNeg))) (nI (e (1000 + (l4 + (3 : Int32)).toNatClampNeg))) (nI (e (1000 + (l4 + (4 : Int32)).toNatClampNeg))) q48.2.1).bind (fun q49 => if q48.1 = q49.1 then (k23 (l4 + (8 : Int32)) q49.2 q48.2.2.1 G q48.2.2.2 S) else (some (0 : Int32))))))))))))
set_option maxHeartbeats 4000000 in
set_option maxRecDepth 100000 in
theorem kL_law_1524 {E : JE} {k23 : Int32 → JI → JL → JG → JG → JS → Option Int32} (H23 : ∀ (l4 : Int32) (I : JI) (L : JL) (G : JG) (D : JG) (S : JS), Lay G S → S[136]? = some (23, 1) → k23 l4 I L G D S = some 1 → AtJ E xL_law Zlaw (601024, 7293034) 200 23 [(0, .ref (E.2.2.2 103)), (1, .ref (E.1 + 0)), (2, .ref (E.1 + 66)), (3, .ref (E.1 + 136)), (4, .int l4)] [] I L G D S) : ∀ (l4 : Int32) (I : JI) (L : JL) (G : JG) (D : JG) (S : JS), Lay G S → S[136]? = some (23, 1) → fL_law_1524 E.2.2.2 k23 l4 I L G D S = some 1 → AtJ E xL_law Zlaw (601024, 7293034) 200 1524 [(0, .ref (E.2.2.2 103)), (1, .ref (E.1 + 0)), (2, .ref (E.1 + 66)), (3, .ref (E.1 + 136)), (4, .int l4)] [] I L G D S := by
  intro l4 I L G D S hL h3 h
  unfold fL_law_1524 at h
  refine j_aload_n 1525 dL_law_1524 rfl rfl 1 rfl ?_
  refine j_aload_n 1526 dL_law_1525 rfl rfl 0 rfl ?_
  refine j_iload 1528 dL_law_1526 rfl 4 rfl ?_
  refine j_iconst (v := (1 : Int32)) 1529 dL_law_1528 rfl (by decide) ?_
  refine j_iadd 1530 dL_law_1529 rfl ?_
  obtain ⟨hg, h⟩ := j_gs h
  refine j_sld 1531 dL_law_1530 rfl (j_inv hg) ?_
  refine j_aload_n 1532 dL_law_1531 rfl rfl 0 rfl ?_
  refine j_iload 1534 dL_law_1532 rfl 4 rfl ?_
  refine j_iconst (v := (2 : Int32)) 1535 dL_law_1534 rfl (by decide) ?_
  refine j_iadd 1536 dL_law_1535 rfl ?_
  obtain ⟨hg, h⟩ := j_gs h
  refine j_sld 1537 dL_law_1536 rfl (j_inv hg) ?_
  refine j_aload_n 1538 dL_law_1537 rfl rfl 0 rfl ?_
  refine j_iload 1540 dL_law_1538 rfl 4 rfl ?_
  refine j_iconst (v := (3 : Int32)) 1541 dL_law_1540 rfl (by decide) ?_
  refine j_iadd 1542 dL_law_1541 rfl ?_
  obtain ⟨hg, h⟩ := j_gs h
  refine j_sld 1543 dL_law_1542 rfl (j_inv hg) ?_
  refine j_aload_n 1544 dL_law_1543 rfl rfl 0 rfl ?_
  refine j_iload 1546 dL_law_1544 rfl 4 rfl ?_
  refine j_iconst (v := (4 : Int32)) 1547 dL_law_1546 rfl (by decide) ?_
  refine j_iadd 1548 dL_law_1547 rfl ?_
  obtain ⟨hg, h⟩ := j_gs h
  refine j_sld 1549 dL_law_1548 rfl (j_inv hg) ?_
  obtain ⟨q48, hq48, h⟩ := j_bs h
  refine j_callV (rest := []) (As := [.int (nI (E.2.2.2 (1000 + (l4 + (1 : Int32)).toNatClampNeg))), .int (nI (E.2.2.2 (1000 + (l4 + (2 : Int32)).toNatClampNeg))), .int (nI (E.2.2.2 (1000 + (l4 + (3 : Int32)).toNatClampNeg))), .int (nI (E.2.2.2 (1000 + (l4 + (4 : Int32)).toNatClampNeg)))]) 1552 dL_law_1549 rfl jyX11_far (tcX11_far hL  hq48) (sh_0 hL) cl11 flL_137 wm1160 wm1161 (by decide) rfl rfl (Nat.le_of_ble_eq_true rfl) ?_
  refine j_aload_n 1553 dL_law_1552 rfl rfl 2 rfl ?_
  refine j_aload_n 1554 dL_law_1553 rfl rfl 0 rfl ?_
  refine j_iload 1556 dL_law_1554 rfl 4 rfl ?_
  refine j_iconst (v := (1 : Int32)) 1557 dL_law_1556 rfl (by decide) ?_
  refine j_iadd 1558 dL_law_1557 rfl ?_
  obtain ⟨hg, h⟩ := j_gs h
  refine j_sld 1559 dL_law_1558 rfl (j_inv hg) ?_
  refine j_aload_n 1560 dL_law_1559 rfl rfl 0 rfl ?_
  refine j_iload 1562 dL_law_1560 rfl 4 rfl ?_
  refine j_iconst (v := (2 : Int32)) 1563 dL_law_1562 rfl (by decide) ?_
  refine j_iadd 1564 dL_law_1563 rfl ?_
  obtain ⟨hg, h⟩ := j_gs h
  refine j_sld 1565 dL_law_1564 rfl (j_inv hg) ?_
  refine j_aload_n 1566 dL_law_1565 rfl rfl 0 rfl ?_
  refine j_iload 1568 dL_law_1566 rfl 4 rfl ?_
  refine j_iconst (v := (3 : Int32)) 1569 dL_law_1568 rfl (by decide) ?_
  refine j_iadd 1570 dL_law_1569 rfl ?_
  obtain ⟨hg, h⟩ := j_gs h
  refine j_sld 1571 dL_law_1570 rfl (j_inv hg) ?_
  refine j_aload_n 1572 dL_law_1571 rfl rfl 0 rfl ?_
  refine j_iload 1574 dL_law_1572 rfl 4 rfl ?_
  refine j_iconst (v := (4 : Int32)) 1575 dL_law_1574 rfl (by decide) ?_
  refine j_iadd 1576 dL_law_1575 rfl ?_
  obtain ⟨hg, h⟩ := j_gs h
  refine j_sld 1577 dL_law_1576 rfl (j_inv hg) ?_
  obtain ⟨q49, hq49, h⟩ := j_bs h
  refine j_callV (rest := [.int q48.1]) (As := [.int (nI (E.2.2.2 (1000 + (l4 + (1 : Int32)).toNatClampNeg))), .int (nI (E.2.2.2 (1000 + (l4 + (2 : Int32)).toNatClampNeg))), .int (nI (E.2.2.2 (1000 + (l4 + (3 : Int32)).toNatClampNeg))), .int (nI (E.2.2.2 (1000 + (l4 + (4 : Int32)).toNatClampNeg)))]) 1580 dL_law_1577 rfl jyX12_far (tcX12_far hL  hq49) (sh_66 hL) cl12 flL_140 wm1989 wm1990 (by decide) rfl rfl (Nat.le_of_ble_eq_true rfl) ?_
  refine j_icmp_eq 1823 1583 dL_law_1580 (by decide) rfl (fun hc => ?_) (fun hc => ?_)
  · replace h := j_pos hc h
    refine j_iinc (v := (l4 + (8 : Int32))) (lv' := [(4, .int (l4 + (8 : Int32))), (0, .ref (E.2.2.2 103)), (1, .ref (E.1 + 0)), (2, .ref (E.1 + 66)), (3, .ref (E.1 + 136))]) (q := 4) 1826 dL_law_1823 rfl rfl rfl (by decide) rfl ?_
    refine j_goto 23 dL_law_1826 (by decide) ?_
    refine j_sub [1, 2, 3, 4, 0] rfl ?_
    exact H23 _ _ _ _ _ _ hL h3 h
  · replace h := j_neg hc h
    refine j_iconst (v := (0 : Int32)) 1584 dL_law_1583 rfl (by decide) ?_
    exact absurd (Option.some.inj h) (by decide)
def fL_law_1585 (e : Nat → Nat) (k23 : Int32 → JI → JL → JG → JG → JS → Option Int32) (l4 : Int32) (I : JI) (L : JL) (G : JG) (D : JG) (S : JS) : Option Int32 :=
  j_g (j_in (l4 + (1 : Int32)) (e 104)) (j_g (j_in (l4 + (2 : Int32)) (e 104)) (j_g (j_in (l4 + (3 : Int32)) (e 104)) (j_g (j_in (l4 + (4 : Int32)) (e 104)) (j_g (j_in (l4 + (5 : Int32)) (e 104)) (j_g (j_in (l4 + (6 : Int32)) (e 104)) ((fX11_honest (nI (e (1000 + (l4 + (1 : Int32)).toNatClampNeg))) (nI (e (1000 + (l4 + (2 : Int32)).toNatClampNeg))) (nI (e (1000 + (l4 + (3 : Int32)).toNatClampNeg))) (nI (e (1000 + (l4 + (4 : Int32)).toNatClampNeg))) (nI (e (1000 + (l4 + (5 : Int32)).toNatClampNeg))) (nI (e (1000 + (l4 + (6 : Int32)).toNatClampNeg))) I L G D S).bind (fun q50 => j_g (j_in (l4 + (1 : Int32)) (e 104)) (j_g (j_in (l4 + (2 : Int32)) (e 104)) (j_g (j_in (l4 + (3 : Int32)) (e 104)) (j_g (j_in (l4 + (4 : Int32)) (e 104)) (j_g (j_in (l4 + (5 : Int32)) (e 104)) (j_g (j_in (l4 + (6 : Int32)) (e 104)) ((fX12_honest (nI (e (1000 + (l4 + (1 : Int32)).toNatClampNeg))) (nI (e (1000 + (l4 + (2 : Int32)).toNatClampNeg))) (nI (e (1000 + (l4 + (3 : Int32)).toNatClampNeg))) (nI (e (1000 + (l4 + (4 : Int32)).toNatClampNeg))) (nI (e (1000 + (l4 + (5 : Int32)).toNatClampNeg))) (nI (e (1000 + (l4 + (6 : Int32)).toNatClampNeg))) q50.2.1).bind (fun q51 => if q50.1 = q51.1 then (k23 (l4 + (8 : Int32)) q51.2 q50.2.2.1 q50.2.2.2.1 q50.2.2.2.2.1 q50.2.2.2.2.2) else (some (0 : Int32))))))))))))))))
set_option maxHeartbeats 4000000 in
set_option maxRecDepth 100000 in
theorem kL_law_1585 {E : JE} {k23 : Int32 → JI → JL → JG → JG → JS → Option Int32} (H23 : ∀ (l4 : Int32) (I : JI) (L : JL) (G : JG) (D : JG) (S : JS), Lay G S → S[136]? = some (23, 1) → k23 l4 I L G D S = some 1 → AtJ E xL_law Zlaw (601024, 7293034) 200 23 [(0, .ref (E.2.2.2 103)), (1, .ref (E.1 + 0)), (2, .ref (E.1 + 66)), (3, .ref (E.1 + 136)), (4, .int l4)] [] I L G D S) : ∀ (l4 : Int32) (I : JI) (L : JL) (G : JG) (D : JG) (S : JS), Lay G S → S[136]? = some (23, 1) → fL_law_1585 E.2.2.2 k23 l4 I L G D S = some 1 → AtJ E xL_law Zlaw (601024, 7293034) 200 1585 [(0, .ref (E.2.2.2 103)), (1, .ref (E.1 + 0)), (2, .ref (E.1 + 66)), (3, .ref (E.1 + 136)), (4, .int l4)] [] I L G D S := by
  intro l4 I L G D S hL h3 h
  unfold fL_law_1585 at h
  refine j_aload_n 1586 dL_law_1585 rfl rfl 1 rfl ?_
  refine j_aload_n 1587 dL_law_1586 rfl rfl 0 rfl ?_
  refine j_iload 1589 dL_law_1587 rfl 4 rfl ?_
  refine j_iconst (v := (1 : Int32)) 1590 dL_law_1589 rfl (by decide) ?_
  refine j_iadd 1591 dL_law_1590 rfl ?_
  obtain ⟨hg, h⟩ := j_gs h
  refine j_sld 1592 dL_law_1591 rfl (j_inv hg) ?_
  refine j_aload_n 1593 dL_law_1592 rfl rfl 0 rfl ?_
  refine j_iload 1595 dL_law_1593 rfl 4 rfl ?_
  refine j_iconst (v := (2 : Int32)) 1596 dL_law_1595 rfl (by decide) ?_
  refine j_iadd 1597 dL_law_1596 rfl ?_
  obtain ⟨hg, h⟩ := j_gs h
  refine j_sld 1598 dL_law_1597 rfl (j_inv hg) ?_
  refine j_aload_n 1599 dL_law_1598 rfl rfl 0 rfl ?_
  refine j_iload 1601 dL_law_1599 rfl 4 rfl ?_
  refine j_iconst (v := (3 : Int32)) 1602 dL_law_1601 rfl (by decide) ?_
  refine j_iadd 1603 dL_law_1602 rfl ?_
  obtain ⟨hg, h⟩ := j_gs h
  refine j_sld 1604 dL_law_1603 rfl (j_inv hg) ?_
  refine j_aload_n 1605 dL_law_1604 rfl rfl 0 rfl ?_
  refine j_iload 1607 dL_law_1605 rfl 4 rfl ?_
  refine j_iconst (v := (4 : Int32)) 1608 dL_law_1607 rfl (by decide) ?_
  refine j_iadd 1609 dL_law_1608 rfl ?_
  obtain ⟨hg, h⟩ := j_gs h
  refine j_sld 1610 dL_law_1609 rfl (j_inv hg) ?_
  refine j_aload_n 1611 dL_law_1610 rfl rfl 0 rfl ?_
  refine j_iload 1613 dL_law_1611 rfl 4 rfl ?_
  refine j_iconst (v := (5 : Int32)) 1614 dL_law_1613 rfl (by decide) ?_
  refine j_iadd 1615 dL_law_1614 rfl ?_
  obtain ⟨hg, h⟩ := j_gs h
  refine j_sld 1616 dL_law_1615 rfl (j_inv hg) ?_
  refine j_aload_n 1617 dL_law_1616 rfl rfl 0 rfl ?_
  refine j_iload 1619 dL_law_1617 rfl 4 rfl ?_
  refine j_bipush (v := (6 : Int32)) 1621 dL_law_1619 rfl (by decide) ?_
  refine j_iadd 1622 dL_law_1621 rfl ?_
  obtain ⟨hg, h⟩ := j_gs h
  refine j_sld 1623 dL_law_1622 rfl (j_inv hg) ?_
  obtain ⟨q50, hq50, h⟩ := j_bs h
  refine j_callV (rest := []) (As := [.int (nI (E.2.2.2 (1000 + (l4 + (1 : Int32)).toNatClampNeg))), .int (nI (E.2.2.2 (1000 + (l4 + (2 : Int32)).toNatClampNeg))), .int (nI (E.2.2.2 (1000 + (l4 + (3 : Int32)).toNatClampNeg))), .int (nI (E.2.2.2 (1000 + (l4 + (4 : Int32)).toNatClampNeg))), .int (nI (E.2.2.2 (1000 + (l4 + (5 : Int32)).toNatClampNeg))), .int (nI (E.2.2.2 (1000 + (l4 + (6 : Int32)).toNatClampNeg)))]) 1626 dL_law_1623 rfl jyX11_honest (tcX11_honest hL  hq50) (sh_0 hL) cl11 flL_141 wm1210 wm1211 (by decide) rfl rfl (Nat.le_of_ble_eq_true rfl) ?_
  have h3q50 := preX11_honest hL h3 hq50
  replace hL := lyX11_honest hL hq50
  refine j_aload_n 1627 dL_law_1626 rfl rfl 2 rfl ?_
  refine j_aload_n 1628 dL_law_1627 rfl rfl 0 rfl ?_
  refine j_iload 1630 dL_law_1628 rfl 4 rfl ?_
  refine j_iconst (v := (1 : Int32)) 1631 dL_law_1630 rfl (by decide) ?_
  refine j_iadd 1632 dL_law_1631 rfl ?_
  obtain ⟨hg, h⟩ := j_gs h
  refine j_sld 1633 dL_law_1632 rfl (j_inv hg) ?_
  refine j_aload_n 1634 dL_law_1633 rfl rfl 0 rfl ?_
  refine j_iload 1636 dL_law_1634 rfl 4 rfl ?_
  refine j_iconst (v := (2 : Int32)) 1637 dL_law_1636 rfl (by decide) ?_
  refine j_iadd 1638 dL_law_1637 rfl ?_
  obtain ⟨hg, h⟩ := j_gs h
  refine j_sld 1639 dL_law_1638 rfl (j_inv hg) ?_
  refine j_aload_n 1640 dL_law_1639 rfl rfl 0 rfl ?_
  refine j_iload 1642 dL_law_1640 rfl 4 rfl ?_
  refine j_iconst (v := (3 : Int32)) 1643 dL_law_1642 rfl (by decide) ?_
  refine j_iadd 1644 dL_law_1643 rfl ?_
  obtain ⟨hg, h⟩ := j_gs h
  refine j_sld 1645 dL_law_1644 rfl (j_inv hg) ?_
  refine j_aload_n 1646 dL_law_1645 rfl rfl 0 rfl ?_
  refine j_iload 1648 dL_law_1646 rfl 4 rfl ?_
  refine j_iconst (v := (4 : Int32)) 1649 dL_law_1648 rfl (by decide) ?_
  refine j_iadd 1650 dL_law_1649 rfl ?_
  obtain ⟨hg, h⟩ := j_gs h
  refine j_sld 1651 dL_law_1650 rfl (j_inv hg) ?_
  refine j_aload_n 1652 dL_law_1651 rfl rfl 0 rfl ?_
  refine j_iload 1654 dL_law_1652 rfl 4 rfl ?_
  refine j_iconst (v := (5 : Int32)) 1655 dL_law_1654 rfl (by decide) ?_
  refine j_iadd 1656 dL_law_1655 rfl ?_
  obtain ⟨hg, h⟩ := j_gs h
  refine j_sld 1657 dL_law_1656 rfl (j_inv hg) ?_
  refine j_aload_n 1658 dL_law_1657 rfl rfl 0 rfl ?_
  refine j_iload 1660 dL_law_1658 rfl 4 rfl ?_
  refine j_bipush (v := (6 : Int32)) 1662 dL_law_1660 rfl (by decide) ?_
  refine j_iadd 1663 dL_law_1662 rfl ?_
  obtain ⟨hg, h⟩ := j_gs h
  refine j_sld 1664 dL_law_1663 rfl (j_inv hg) ?_
  obtain ⟨q51, hq51, h⟩ := j_bs h
  refine j_callV (rest := [.int q50.1]) (As := [.int (nI (E.2.2.2 (1000 + (l4 + (1 : Int32)).toNatClampNeg))), .int (nI (E.2.2.2 (1000 + (l4 + (2 : Int32)).toNatClampNeg))), .int (nI (E.2.2.2 (1000 + (l4 + (3 : Int32)).toNatClampNeg))), .int (nI (E.2.2.2 (1000 + (l4 + (4 : Int32)).toNatClampNeg))), .int (nI (E.2.2.2 (1000 + (l4 + (5 : Int32)).toNatClampNeg))), .int (nI (E.2.2.2 (1000 + (l4 + (6 : Int32)).toNatClampNeg)))]) 1667 dL_law_1664 rfl jyX12_honest (tcX12_honest hL  hq51) (sh_66 hL) cl12 flL_145 wm2012 wm2013 (by decide) rfl rfl (Nat.le_of_ble_eq_true rfl) ?_
  refine j_icmp_eq 1823 1670 dL_law_1667 (by decide) rfl (fun hc => ?_) (fun hc => ?_)
  · replace h := j_pos hc h
    refine j_iinc (v := (l4 + (8 : Int32))) (lv' := [(4, .int (l4 + (8 : Int32))), (0, .ref (E.2.2.2 103)), (1, .ref (E.1 + 0)), (2, .ref (E.1 + 66)), (3, .ref (E.1 + 136))]) (q := 4) 1826 dL_law_1823 rfl rfl rfl (by decide) rfl ?_
    refine j_goto 23 dL_law_1826 (by decide) ?_
    refine j_sub [1, 2, 3, 4, 0] rfl ?_
    exact H23 _ _ _ _ _ _ hL h3q50 h
  · replace h := j_neg hc h
    refine j_iconst (v := (0 : Int32)) 1671 dL_law_1670 rfl (by decide) ?_
    exact absurd (Option.some.inj h) (by decide)
def fL_law_1672 (e : Nat → Nat) (k23 : Int32 → JI → JL → JG → JG → JS → Option Int32) (l4 : Int32) (I : JI) (L : JL) (G : JG) (D : JG) (S : JS) : Option Int32 :=
  j_g (j_in (l4 + (1 : Int32)) (e 104)) (j_g (j_in (l4 + (2 : Int32)) (e 104)) (j_g (j_in (l4 + (3 : Int32)) (e 104)) (j_g (j_in (l4 + (4 : Int32)) (e 104)) (j_g (j_in (l4 + (5 : Int32)) (e 104)) ((fX11_mended (nI (e (1000 + (l4 + (1 : Int32)).toNatClampNeg))) (nI (e (1000 + (l4 + (2 : Int32)).toNatClampNeg))) (nI (e (1000 + (l4 + (3 : Int32)).toNatClampNeg))) (nI (e (1000 + (l4 + (4 : Int32)).toNatClampNeg))) (nI (e (1000 + (l4 + (5 : Int32)).toNatClampNeg))) I L D S).bind (fun q52 => j_g (j_in (l4 + (1 : Int32)) (e 104)) (j_g (j_in (l4 + (2 : Int32)) (e 104)) (j_g (j_in (l4 + (3 : Int32)) (e 104)) (j_g (j_in (l4 + (4 : Int32)) (e 104)) (j_g (j_in (l4 + (5 : Int32)) (e 104)) ((fX12_mended (nI (e (1000 + (l4 + (1 : Int32)).toNatClampNeg))) (nI (e (1000 + (l4 + (2 : Int32)).toNatClampNeg))) (nI (e (1000 + (l4 + (3 : Int32)).toNatClampNeg))) (nI (e (1000 + (l4 + (4 : Int32)).toNatClampNeg))) (nI (e (1000 + (l4 + (5 : Int32)).toNatClampNeg))) q52.2.1).bind (fun q53 => if q52.1 = q53.1 then (k23 (l4 + (8 : Int32)) q53.2 q52.2.2.1 G q52.2.2.2 S) else (some (0 : Int32))))))))))))))
set_option maxHeartbeats 4000000 in
set_option maxRecDepth 100000 in
theorem kL_law_1672 {E : JE} {k23 : Int32 → JI → JL → JG → JG → JS → Option Int32} (H23 : ∀ (l4 : Int32) (I : JI) (L : JL) (G : JG) (D : JG) (S : JS), Lay G S → S[136]? = some (23, 1) → k23 l4 I L G D S = some 1 → AtJ E xL_law Zlaw (601024, 7293034) 200 23 [(0, .ref (E.2.2.2 103)), (1, .ref (E.1 + 0)), (2, .ref (E.1 + 66)), (3, .ref (E.1 + 136)), (4, .int l4)] [] I L G D S) : ∀ (l4 : Int32) (I : JI) (L : JL) (G : JG) (D : JG) (S : JS), Lay G S → S[136]? = some (23, 1) → fL_law_1672 E.2.2.2 k23 l4 I L G D S = some 1 → AtJ E xL_law Zlaw (601024, 7293034) 200 1672 [(0, .ref (E.2.2.2 103)), (1, .ref (E.1 + 0)), (2, .ref (E.1 + 66)), (3, .ref (E.1 + 136)), (4, .int l4)] [] I L G D S := by
  intro l4 I L G D S hL h3 h
  unfold fL_law_1672 at h
  refine j_aload_n 1673 dL_law_1672 rfl rfl 1 rfl ?_
  refine j_aload_n 1674 dL_law_1673 rfl rfl 0 rfl ?_
  refine j_iload 1676 dL_law_1674 rfl 4 rfl ?_
  refine j_iconst (v := (1 : Int32)) 1677 dL_law_1676 rfl (by decide) ?_
  refine j_iadd 1678 dL_law_1677 rfl ?_
  obtain ⟨hg, h⟩ := j_gs h
  refine j_sld 1679 dL_law_1678 rfl (j_inv hg) ?_
  refine j_aload_n 1680 dL_law_1679 rfl rfl 0 rfl ?_
  refine j_iload 1682 dL_law_1680 rfl 4 rfl ?_
  refine j_iconst (v := (2 : Int32)) 1683 dL_law_1682 rfl (by decide) ?_
  refine j_iadd 1684 dL_law_1683 rfl ?_
  obtain ⟨hg, h⟩ := j_gs h
  refine j_sld 1685 dL_law_1684 rfl (j_inv hg) ?_
  refine j_aload_n 1686 dL_law_1685 rfl rfl 0 rfl ?_
  refine j_iload 1688 dL_law_1686 rfl 4 rfl ?_
  refine j_iconst (v := (3 : Int32)) 1689 dL_law_1688 rfl (by decide) ?_
  refine j_iadd 1690 dL_law_1689 rfl ?_
  obtain ⟨hg, h⟩ := j_gs h
  refine j_sld 1691 dL_law_1690 rfl (j_inv hg) ?_
  refine j_aload_n 1692 dL_law_1691 rfl rfl 0 rfl ?_
  refine j_iload 1694 dL_law_1692 rfl 4 rfl ?_
  refine j_iconst (v := (4 : Int32)) 1695 dL_law_1694 rfl (by decide) ?_
  refine j_iadd 1696 dL_law_1695 rfl ?_
  obtain ⟨hg, h⟩ := j_gs h
  refine j_sld 1697 dL_law_1696 rfl (j_inv hg) ?_
  refine j_aload_n 1698 dL_law_1697 rfl rfl 0 rfl ?_
  refine j_iload 1700 dL_law_1698 rfl 4 rfl ?_
  refine j_iconst (v := (5 : Int32)) 1701 dL_law_1700 rfl (by decide) ?_
  refine j_iadd 1702 dL_law_1701 rfl ?_
  obtain ⟨hg, h⟩ := j_gs h
  refine j_sld 1703 dL_law_1702 rfl (j_inv hg) ?_
  obtain ⟨q52, hq52, h⟩ := j_bs h
  refine j_callV (rest := []) (As := [.int (nI (E.2.2.2 (1000 + (l4 + (1 : Int32)).toNatClampNeg))), .int (nI (E.2.2.2 (1000 + (l4 + (2 : Int32)).toNatClampNeg))), .int (nI (E.2.2.2 (1000 + (l4 + (3 : Int32)).toNatClampNeg))), .int (nI (E.2.2.2 (1000 + (l4 + (4 : Int32)).toNatClampNeg))), .int (nI (E.2.2.2 (1000 + (l4 + (5 : Int32)).toNatClampNeg)))]) 1706 dL_law_1703 rfl jyX11_mended (tcX11_mended hL  hq52) (sh_0 hL) cl11 flL_146 wm1221 wm1222 (by decide) rfl rfl (Nat.le_of_ble_eq_true rfl) ?_
  refine j_aload_n 1707 dL_law_1706 rfl rfl 2 rfl ?_
  refine j_aload_n 1708 dL_law_1707 rfl rfl 0 rfl ?_
  refine j_iload 1710 dL_law_1708 rfl 4 rfl ?_
  refine j_iconst (v := (1 : Int32)) 1711 dL_law_1710 rfl (by decide) ?_
  refine j_iadd 1712 dL_law_1711 rfl ?_
  obtain ⟨hg, h⟩ := j_gs h
  refine j_sld 1713 dL_law_1712 rfl (j_inv hg) ?_
  refine j_aload_n 1714 dL_law_1713 rfl rfl 0 rfl ?_
  refine j_iload 1716 dL_law_1714 rfl 4 rfl ?_
  refine j_iconst (v := (2 : Int32)) 1717 dL_law_1716 rfl (by decide) ?_
  refine j_iadd 1718 dL_law_1717 rfl ?_
  obtain ⟨hg, h⟩ := j_gs h
  refine j_sld 1719 dL_law_1718 rfl (j_inv hg) ?_
  refine j_aload_n 1720 dL_law_1719 rfl rfl 0 rfl ?_
  refine j_iload 1722 dL_law_1720 rfl 4 rfl ?_
  refine j_iconst (v := (3 : Int32)) 1723 dL_law_1722 rfl (by decide) ?_
  refine j_iadd 1724 dL_law_1723 rfl ?_
  obtain ⟨hg, h⟩ := j_gs h
  refine j_sld 1725 dL_law_1724 rfl (j_inv hg) ?_
  refine j_aload_n 1726 dL_law_1725 rfl rfl 0 rfl ?_
  refine j_iload 1728 dL_law_1726 rfl 4 rfl ?_
  refine j_iconst (v := (4 : Int32)) 1729 dL_law_1728 rfl (by decide) ?_
  refine j_iadd 1730 dL_law_1729 rfl ?_
  obtain ⟨hg, h⟩ := j_gs h
  refine j_sld 1731 dL_law_1730 rfl (j_inv hg) ?_
  refine j_aload_n 1732 dL_law_1731 rfl rfl 0 rfl ?_
  refine j_iload 1734 dL_law_1732 rfl 4 rfl ?_
  refine j_iconst (v := (5 : Int32)) 1735 dL_law_1734 rfl (by decide) ?_
  refine j_iadd 1736 dL_law_1735 rfl ?_
  obtain ⟨hg, h⟩ := j_gs h
  refine j_sld 1737 dL_law_1736 rfl (j_inv hg) ?_
  obtain ⟨q53, hq53, h⟩ := j_bs h
  refine j_callV (rest := [.int q52.1]) (As := [.int (nI (E.2.2.2 (1000 + (l4 + (1 : Int32)).toNatClampNeg))), .int (nI (E.2.2.2 (1000 + (l4 + (2 : Int32)).toNatClampNeg))), .int (nI (E.2.2.2 (1000 + (l4 + (3 : Int32)).toNatClampNeg))), .int (nI (E.2.2.2 (1000 + (l4 + (4 : Int32)).toNatClampNeg))), .int (nI (E.2.2.2 (1000 + (l4 + (5 : Int32)).toNatClampNeg)))]) 1740 dL_law_1737 rfl jyX12_mended (tcX12_mended hL  hq53) (sh_66 hL) cl12 flL_150 wm2016 wm2017 (by decide) rfl rfl (Nat.le_of_ble_eq_true rfl) ?_
  refine j_icmp_eq 1823 1743 dL_law_1740 (by decide) rfl (fun hc => ?_) (fun hc => ?_)
  · replace h := j_pos hc h
    refine j_iinc (v := (l4 + (8 : Int32))) (lv' := [(4, .int (l4 + (8 : Int32))), (0, .ref (E.2.2.2 103)), (1, .ref (E.1 + 0)), (2, .ref (E.1 + 66)), (3, .ref (E.1 + 136))]) (q := 4) 1826 dL_law_1823 rfl rfl rfl (by decide) rfl ?_
    refine j_goto 23 dL_law_1826 (by decide) ?_
    refine j_sub [1, 2, 3, 4, 0] rfl ?_
    exact H23 _ _ _ _ _ _ hL h3 h
  · replace h := j_neg hc h
    refine j_iconst (v := (0 : Int32)) 1744 dL_law_1743 rfl (by decide) ?_
    exact absurd (Option.some.inj h) (by decide)
def fL_law_1766 (e : Nat → Nat) (k23 : Int32 → JI → JL → JG → JG → JS → Option Int32) (l4 : Int32) (s0 : Int32) (s1 : Int32) (I : JI) (L : JL) (G : JG) (D : JG) (S : JS) : Option Int32 :=
  (fX11_mark s1 s0 I L G D S).bind (fun q62 => j_g (j_in (l4 + (1 : Int32)) (e 104)) (j_g (j_in (l4 + (2 : Int32)) (e 104)) (if (nI (e (1000 + (l4 + (2 : Int32)).toNatClampNeg))) = 0 then ((fX12_mark (nI (e (1000 + (l4 + (1 : Int32)).toNatClampNeg))) (0 : Int32) q62.2.1).bind (fun q63 => if q62.1 = q63.1 then (k23 (l4 + (8 : Int32)) q63.2 q62.2.2.1 q62.2.2.2.1 q62.2.2.2.2.1 q62.2.2.2.2.2) else (some (0 : Int32)))) else ((fX12_mark (nI (e (1000 + (l4 + (1 : Int32)).toNatClampNeg))) (1 : Int32) q62.2.1).bind (fun q64 => if q62.1 = q64.1 then (k23 (l4 + (8 : Int32)) q64.2 q62.2.2.1 q62.2.2.2.1 q62.2.2.2.2.1 q62.2.2.2.2.2) else (some (0 : Int32)))))))
set_option maxHeartbeats 4000000 in
set_option maxRecDepth 100000 in
theorem kL_law_1766 {E : JE} {k23 : Int32 → JI → JL → JG → JG → JS → Option Int32} (H23 : ∀ (l4 : Int32) (I : JI) (L : JL) (G : JG) (D : JG) (S : JS), Lay G S → S[136]? = some (23, 1) → k23 l4 I L G D S = some 1 → AtJ E xL_law Zlaw (601024, 7293034) 200 23 [(0, .ref (E.2.2.2 103)), (1, .ref (E.1 + 0)), (2, .ref (E.1 + 66)), (3, .ref (E.1 + 136)), (4, .int l4)] [] I L G D S) : ∀ (l4 : Int32) (s0 : Int32) (s1 : Int32) (I : JI) (L : JL) (G : JG) (D : JG) (S : JS), Lay G S → S[136]? = some (23, 1) → fL_law_1766 E.2.2.2 k23 l4 s0 s1 I L G D S = some 1 → AtJ E xL_law Zlaw (601024, 7293034) 200 1766 [(0, .ref (E.2.2.2 103)), (1, .ref (E.1 + 0)), (2, .ref (E.1 + 66)), (3, .ref (E.1 + 136)), (4, .int l4)] [.int s0, .int s1, .ref (E.1 + 0)] I L G D S := by
  intro l4 s0 s1 I L G D S hL h3 h
  unfold fL_law_1766 at h
  obtain ⟨q62, hq62, h⟩ := j_bs h
  refine j_callV (rest := []) (As := [.int s1, .int s0]) 1769 dL_law_1766 rfl jyX11_mark (tcX11_mark hL  hq62) (sh_0 hL) cl11 flL_151 wm1257 wm1258 (by decide) rfl rfl (Nat.le_of_ble_eq_true rfl) ?_
  have h3q62 := preX11_mark hL h3 hq62
  replace hL := lyX11_mark hL hq62
  refine j_aload_n 1770 dL_law_1769 rfl rfl 2 rfl ?_
  refine j_aload_n 1771 dL_law_1770 rfl rfl 0 rfl ?_
  refine j_iload 1773 dL_law_1771 rfl 4 rfl ?_
  refine j_iconst (v := (1 : Int32)) 1774 dL_law_1773 rfl (by decide) ?_
  refine j_iadd 1775 dL_law_1774 rfl ?_
  obtain ⟨hg, h⟩ := j_gs h
  refine j_sld 1776 dL_law_1775 rfl (j_inv hg) ?_
  refine j_aload_n 1777 dL_law_1776 rfl rfl 0 rfl ?_
  refine j_iload 1779 dL_law_1777 rfl 4 rfl ?_
  refine j_iconst (v := (2 : Int32)) 1780 dL_law_1779 rfl (by decide) ?_
  refine j_iadd 1781 dL_law_1780 rfl ?_
  obtain ⟨hg, h⟩ := j_gs h
  refine j_sld 1782 dL_law_1781 rfl (j_inv hg) ?_
  refine j_if_eq 1789 1785 dL_law_1782 (by decide) rfl (fun hc => ?_) (fun hc => ?_)
  · replace h := j_pos hc h
    refine j_iconst (v := (0 : Int32)) 1790 dL_law_1789 rfl (by decide) ?_
    obtain ⟨q63, hq63, h⟩ := j_bs h
    refine j_callV (rest := [.int q62.1]) (As := [.int (nI (E.2.2.2 (1000 + (l4 + (1 : Int32)).toNatClampNeg))), .int (0 : Int32)]) 1793 dL_law_1790 rfl jyX12_mark (tcX12_mark hL  hq63) (sh_66 hL) cl12 flL_154 wm2028 wm2029 (by decide) rfl rfl (Nat.le_of_ble_eq_true rfl) ?_
    refine j_icmp_eq 1823 1796 dL_law_1793 (by decide) rfl (fun hc => ?_) (fun hc => ?_)
    · replace h := j_pos hc h
      refine j_iinc (v := (l4 + (8 : Int32))) (lv' := [(4, .int (l4 + (8 : Int32))), (0, .ref (E.2.2.2 103)), (1, .ref (E.1 + 0)), (2, .ref (E.1 + 66)), (3, .ref (E.1 + 136))]) (q := 4) 1826 dL_law_1823 rfl rfl rfl (by decide) rfl ?_
      refine j_goto 23 dL_law_1826 (by decide) ?_
      refine j_sub [1, 2, 3, 4, 0] rfl ?_
      exact H23 _ _ _ _ _ _ hL h3q62 h
    · replace h := j_neg hc h
      refine j_iconst (v := (0 : Int32)) 1797 dL_law_1796 rfl (by decide) ?_
      exact absurd (Option.some.inj h) (by decide)
  · replace h := j_neg hc h
    refine j_iconst (v := (1 : Int32)) 1786 dL_law_1785 rfl (by decide) ?_
    refine j_goto 1790 dL_law_1786 (by decide) ?_
    obtain ⟨q64, hq64, h⟩ := j_bs h
    refine j_callV (rest := [.int q62.1]) (As := [.int (nI (E.2.2.2 (1000 + (l4 + (1 : Int32)).toNatClampNeg))), .int (1 : Int32)]) 1793 dL_law_1790 rfl jyX12_mark (tcX12_mark hL  hq64) (sh_66 hL) cl12 flL_154 wm2028 wm2029 (by decide) rfl rfl (Nat.le_of_ble_eq_true rfl) ?_
    refine j_icmp_eq 1823 1796 dL_law_1793 (by decide) rfl (fun hc => ?_) (fun hc => ?_)
    · replace h := j_pos hc h
      refine j_iinc (v := (l4 + (8 : Int32))) (lv' := [(4, .int (l4 + (8 : Int32))), (0, .ref (E.2.2.2 103)), (1, .ref (E.1 + 0)), (2, .ref (E.1 + 66)), (3, .ref (E.1 + 136))]) (q := 4) 1826 dL_law_1823 rfl rfl rfl (by decide) rfl ?_
      refine j_goto 23 dL_law_1826 (by decide) ?_
      refine j_sub [1, 2, 3, 4, 0] rfl ?_
      exact H23 _ _ _ _ _ _ hL h3q62 h
    · replace h := j_neg hc h
      refine j_iconst (v := (0 : Int32)) 1797 dL_law_1796 rfl (by decide) ?_
      exact absurd (Option.some.inj h) (by decide)
def fL_law_1745 (e : Nat → Nat) (k23 : Int32 → JI → JL → JG → JG → JS → Option Int32) (l4 : Int32) (I : JI) (L : JL) (G : JG) (D : JG) (S : JS) : Option Int32 :=
  j_g (j_in (l4 + (1 : Int32)) (e 104)) (j_g (j_in (l4 + (2 : Int32)) (e 104)) (if (nI (e (1000 + (l4 + (2 : Int32)).toNatClampNeg))) = 0 then (fL_law_1766 e k23 l4 (0 : Int32) (nI (e (1000 + (l4 + (1 : Int32)).toNatClampNeg))) I L G D S) else (fL_law_1766 e k23 l4 (1 : Int32) (nI (e (1000 + (l4 + (1 : Int32)).toNatClampNeg))) I L G D S)))
set_option maxHeartbeats 4000000 in
set_option maxRecDepth 100000 in
theorem kL_law_1745 {E : JE} {k23 : Int32 → JI → JL → JG → JG → JS → Option Int32} (H23 : ∀ (l4 : Int32) (I : JI) (L : JL) (G : JG) (D : JG) (S : JS), Lay G S → S[136]? = some (23, 1) → k23 l4 I L G D S = some 1 → AtJ E xL_law Zlaw (601024, 7293034) 200 23 [(0, .ref (E.2.2.2 103)), (1, .ref (E.1 + 0)), (2, .ref (E.1 + 66)), (3, .ref (E.1 + 136)), (4, .int l4)] [] I L G D S) : ∀ (l4 : Int32) (I : JI) (L : JL) (G : JG) (D : JG) (S : JS), Lay G S → S[136]? = some (23, 1) → fL_law_1745 E.2.2.2 k23 l4 I L G D S = some 1 → AtJ E xL_law Zlaw (601024, 7293034) 200 1745 [(0, .ref (E.2.2.2 103)), (1, .ref (E.1 + 0)), (2, .ref (E.1 + 66)), (3, .ref (E.1 + 136)), (4, .int l4)] [] I L G D S := by
  intro l4 I L G D S hL h3 h
  unfold fL_law_1745 at h
  refine j_aload_n 1746 dL_law_1745 rfl rfl 1 rfl ?_
  refine j_aload_n 1747 dL_law_1746 rfl rfl 0 rfl ?_
  refine j_iload 1749 dL_law_1747 rfl 4 rfl ?_
  refine j_iconst (v := (1 : Int32)) 1750 dL_law_1749 rfl (by decide) ?_
  refine j_iadd 1751 dL_law_1750 rfl ?_
  obtain ⟨hg, h⟩ := j_gs h
  refine j_sld 1752 dL_law_1751 rfl (j_inv hg) ?_
  refine j_aload_n 1753 dL_law_1752 rfl rfl 0 rfl ?_
  refine j_iload 1755 dL_law_1753 rfl 4 rfl ?_
  refine j_iconst (v := (2 : Int32)) 1756 dL_law_1755 rfl (by decide) ?_
  refine j_iadd 1757 dL_law_1756 rfl ?_
  obtain ⟨hg, h⟩ := j_gs h
  refine j_sld 1758 dL_law_1757 rfl (j_inv hg) ?_
  refine j_if_eq 1765 1761 dL_law_1758 (by decide) rfl (fun hc => ?_) (fun hc => ?_)
  · replace h := j_pos hc h
    refine j_iconst (v := (0 : Int32)) 1766 dL_law_1765 rfl (by decide) ?_
    exact kL_law_1766    H23 _ _ _ _ _ _ _ _ hL h3 h
  · replace h := j_neg hc h
    refine j_iconst (v := (1 : Int32)) 1762 dL_law_1761 rfl (by decide) ?_
    refine j_goto 1766 dL_law_1762 (by decide) ?_
    exact kL_law_1766    H23 _ _ _ _ _ _ _ _ hL h3 h
def fL_law_1798 (e : Nat → Nat) (k23 : Int32 → JI → JL → JG → JG → JS → Option Int32) (l4 : Int32) (I : JI) (L : JL) (G : JG) (D : JG) (S : JS) : Option Int32 :=
  j_g (j_in (l4 + (1 : Int32)) (e 104)) ((fX11_count (nI (e (1000 + (l4 + (1 : Int32)).toNatClampNeg))) I D S).bind (fun q54 => j_g (j_in (l4 + (1 : Int32)) (e 104)) ((fX12_count (nI (e (1000 + (l4 + (1 : Int32)).toNatClampNeg))) I).bind (fun q55 => if q54 = q55.1 then (k23 (l4 + (8 : Int32)) q55.2 L G D S) else (some (0 : Int32))))))
set_option maxHeartbeats 4000000 in
set_option maxRecDepth 100000 in
theorem kL_law_1798 {E : JE} {k23 : Int32 → JI → JL → JG → JG → JS → Option Int32} (H23 : ∀ (l4 : Int32) (I : JI) (L : JL) (G : JG) (D : JG) (S : JS), Lay G S → S[136]? = some (23, 1) → k23 l4 I L G D S = some 1 → AtJ E xL_law Zlaw (601024, 7293034) 200 23 [(0, .ref (E.2.2.2 103)), (1, .ref (E.1 + 0)), (2, .ref (E.1 + 66)), (3, .ref (E.1 + 136)), (4, .int l4)] [] I L G D S) : ∀ (l4 : Int32) (I : JI) (L : JL) (G : JG) (D : JG) (S : JS), Lay G S → S[136]? = some (23, 1) → fL_law_1798 E.2.2.2 k23 l4 I L G D S = some 1 → AtJ E xL_law Zlaw (601024, 7293034) 200 1798 [(0, .ref (E.2.2.2 103)), (1, .ref (E.1 + 0)), (2, .ref (E.1 + 66)), (3, .ref (E.1 + 136)), (4, .int l4)] [] I L G D S := by
  intro l4 I L G D S hL h3 h
  unfold fL_law_1798 at h
  refine j_aload_n 1799 dL_law_1798 rfl rfl 1 rfl ?_
  refine j_aload_n 1800 dL_law_1799 rfl rfl 0 rfl ?_
  refine j_iload 1802 dL_law_1800 rfl 4 rfl ?_
  refine j_iconst (v := (1 : Int32)) 1803 dL_law_1802 rfl (by decide) ?_
  refine j_iadd 1804 dL_law_1803 rfl ?_
  obtain ⟨hg, h⟩ := j_gs h
  refine j_sld 1805 dL_law_1804 rfl (j_inv hg) ?_
  obtain ⟨q54, hq54, h⟩ := j_bs h
  refine j_callV (rest := []) (As := [.int (nI (E.2.2.2 (1000 + (l4 + (1 : Int32)).toNatClampNeg)))]) 1808 dL_law_1805 rfl jyX11_count (tcX11_count hL  hq54) (sh_0 hL) cl11 flL_155 wm1307 wm1308 (by decide) rfl rfl (Nat.le_of_ble_eq_true rfl) ?_
  refine j_aload_n 1809 dL_law_1808 rfl rfl 2 rfl ?_
  refine j_aload_n 1810 dL_law_1809 rfl rfl 0 rfl ?_
  refine j_iload 1812 dL_law_1810 rfl 4 rfl ?_
  refine j_iconst (v := (1 : Int32)) 1813 dL_law_1812 rfl (by decide) ?_
  refine j_iadd 1814 dL_law_1813 rfl ?_
  obtain ⟨hg, h⟩ := j_gs h
  refine j_sld 1815 dL_law_1814 rfl (j_inv hg) ?_
  obtain ⟨q55, hq55, h⟩ := j_bs h
  refine j_callV (rest := [.int q54]) (As := [.int (nI (E.2.2.2 (1000 + (l4 + (1 : Int32)).toNatClampNeg)))]) 1818 dL_law_1815 rfl jyX12_count (tcX12_count hL  hq55) (sh_66 hL) cl12 flL_158 wm2040 wm2041 (by decide) rfl rfl (Nat.le_of_ble_eq_true rfl) ?_
  refine j_icmp_eq 1823 1821 dL_law_1818 (by decide) rfl (fun hc => ?_) (fun hc => ?_)
  · replace h := j_pos hc h
    refine j_iinc (v := (l4 + (8 : Int32))) (lv' := [(4, .int (l4 + (8 : Int32))), (0, .ref (E.2.2.2 103)), (1, .ref (E.1 + 0)), (2, .ref (E.1 + 66)), (3, .ref (E.1 + 136))]) (q := 4) 1826 dL_law_1823 rfl rfl rfl (by decide) rfl ?_
    refine j_goto 23 dL_law_1826 (by decide) ?_
    refine j_sub [1, 2, 3, 4, 0] rfl ?_
    exact H23 _ _ _ _ _ _ hL h3 h
  · replace h := j_neg hc h
    refine j_iconst (v := (0 : Int32)) 1822 dL_law_1821 rfl (by decide) ?_
    exact absurd (Option.some.inj h) (by decide)
def fL_law_23 (e : Nat → Nat) : Nat → Int32 → JI → JL → JG → JG → JS → Option Int32
  | 0, _, _, _, _, _, _ => none
  | n + 1, l4, I, L, G, D, S =>
    if ((Int32.ofNat (e 104)) - (8 : Int32)) < l4 then (j_g (decide ((S).length ≤ 601024 ∧ jm_sl S ≤ 7293034)) (some (1 : Int32))) else (j_g (j_in l4 (e 104)) (if ((nI (e (1000 + l4.toNatClampNeg))) &&& (31 : Int32)) = (0 : Int32) then (fL_law_176 e (fL_law_23 e n) l4 I L G D S) else (if ((nI (e (1000 + l4.toNatClampNeg))) &&& (31 : Int32)) = (1 : Int32) then (fL_law_213 e (fL_law_23 e n) l4 I L G D S) else (if ((nI (e (1000 + l4.toNatClampNeg))) &&& (31 : Int32)) = (2 : Int32) then (fL_law_274 e (fL_law_23 e n) l4 I L G D S) else (if ((nI (e (1000 + l4.toNatClampNeg))) &&& (31 : Int32)) = (3 : Int32) then (fL_law_323 e (fL_law_23 e n) l4 I L G D S) else (if ((nI (e (1000 + l4.toNatClampNeg))) &&& (31 : Int32)) = (4 : Int32) then (fL_law_360 e (fL_law_23 e n) l4 I L G D S) else (if ((nI (e (1000 + l4.toNatClampNeg))) &&& (31 : Int32)) = (5 : Int32) then (fL_law_409 e (fL_law_23 e n) l4 I L G D S) else (if ((nI (e (1000 + l4.toNatClampNeg))) &&& (31 : Int32)) = (6 : Int32) then (fL_law_462 e (fL_law_23 e n) l4 I L G D S) else (if ((nI (e (1000 + l4.toNatClampNeg))) &&& (31 : Int32)) = (7 : Int32) then (fL_law_515 e (fL_law_23 e n) l4 I L G D S) else (if ((nI (e (1000 + l4.toNatClampNeg))) &&& (31 : Int32)) = (8 : Int32) then (fL_law_540 e (fL_law_23 e n) l4 I L G D S) else (if ((nI (e (1000 + l4.toNatClampNeg))) &&& (31 : Int32)) = (9 : Int32) then (fL_law_687 e (fL_law_23 e n) l4 I L G D S) else (if ((nI (e (1000 + l4.toNatClampNeg))) &&& (31 : Int32)) = (10 : Int32) then (fL_law_700 e (fL_law_23 e n) l4 I L G D S) else (if ((nI (e (1000 + l4.toNatClampNeg))) &&& (31 : Int32)) = (11 : Int32) then (fL_law_737 e (fL_law_23 e n) l4 I L G D S) else (if ((nI (e (1000 + l4.toNatClampNeg))) &&& (31 : Int32)) = (12 : Int32) then (fL_law_786 e (fL_law_23 e n) l4 I L G D S) else (if ((nI (e (1000 + l4.toNatClampNeg))) &&& (31 : Int32)) = (13 : Int32) then (fL_law_887 e (fL_law_23 e n) l4 I L G D S) else (if ((nI (e (1000 + l4.toNatClampNeg))) &&& (31 : Int32)) = (14 : Int32) then (fL_law_988 e (fL_law_23 e n) l4 I L G D S) else (if ((nI (e (1000 + l4.toNatClampNeg))) &&& (31 : Int32)) = (15 : Int32) then (fL_law_1056 e (fL_law_23 e n) l4 I L G D S) else (if ((nI (e (1000 + l4.toNatClampNeg))) &&& (31 : Int32)) = (16 : Int32) then (fL_law_1093 e (fL_law_23 e n) l4 I L G D S) else (if ((nI (e (1000 + l4.toNatClampNeg))) &&& (31 : Int32)) = (17 : Int32) then (fL_law_1130 e (fL_law_23 e n) l4 I L G D S) else (if ((nI (e (1000 + l4.toNatClampNeg))) &&& (31 : Int32)) = (18 : Int32) then (fL_law_1179 e (fL_law_23 e n) l4 I L G D S) else (if ((nI (e (1000 + l4.toNatClampNeg))) &&& (31 : Int32)) = (19 : Int32) then (fL_law_1216 e (fL_law_23 e n) l4 I L G D S) else (if ((nI (e (1000 + l4.toNatClampNeg))) &&& (31 : Int32)) = (20 : Int32) then (fL_law_1253 e (fL_law_23 e n) l4 I L G D S) else (if ((nI (e (1000 + l4.toNatClampNeg))) &&& (31 : Int32)) = (21 : Int32) then (fL_law_1290 e (fL_law_23 e n) l4 I L G D S) else (if ((nI (e (1000 + l4.toNatClampNeg))) &&& (31 : Int32)) = (22 : Int32) then (fL_law_1339 e (fL_law_23 e n) l4 I L G D S) else (if ((nI (e (1000 + l4.toNatClampNeg))) &&& (31 : Int32)) = (23 : Int32) then (fL_law_1376 e (fL_law_23 e n) l4 I L G D S) else (if ((nI (e (1000 + l4.toNatClampNeg))) &&& (31 : Int32)) = (24 : Int32) then (fL_law_1437 e (fL_law_23 e n) l4 I L G D S) else (if ((nI (e (1000 + l4.toNatClampNeg))) &&& (31 : Int32)) = (25 : Int32) then (fL_law_1524 e (fL_law_23 e n) l4 I L G D S) else (if ((nI (e (1000 + l4.toNatClampNeg))) &&& (31 : Int32)) = (26 : Int32) then (fL_law_1585 e (fL_law_23 e n) l4 I L G D S) else (if ((nI (e (1000 + l4.toNatClampNeg))) &&& (31 : Int32)) = (27 : Int32) then (fL_law_1672 e (fL_law_23 e n) l4 I L G D S) else (if ((nI (e (1000 + l4.toNatClampNeg))) &&& (31 : Int32)) = (28 : Int32) then (fL_law_1745 e (fL_law_23 e n) l4 I L G D S) else (if ((nI (e (1000 + l4.toNatClampNeg))) &&& (31 : Int32)) = (29 : Int32) then (fL_law_1798 e (fL_law_23 e n) l4 I L G D S) else ((fL_law_23 e n) (l4 + (8 : Int32)) I L G D S))))))))))))))))))))))))))))))))
set_option maxHeartbeats 4000000 in
set_option maxRecDepth 100000 in
theorem kL_law_23 {E : JE} : ∀ (n : Nat) (l4 : Int32) (I : JI) (L : JL) (G : JG) (D : JG) (S : JS), Lay G S → S[136]? = some (23, 1) → fL_law_23 E.2.2.2 n l4 I L G D S = some 1 → AtJ E xL_law Zlaw (601024, 7293034) 200 23 [(0, .ref (E.2.2.2 103)), (1, .ref (E.1 + 0)), (2, .ref (E.1 + 66)), (3, .ref (E.1 + 136)), (4, .int l4)] [] I L G D S := by
  intro n
  induction n with
  | zero => intro l4 I L G D S hL h3 h; simp [fL_law_23] at h
  | succ n ih =>
    intro l4 I L G D S hL h3 h
    rw [fL_law_23] at h
    refine j_iload 25 dL_law_23 rfl 4 rfl ?_
    refine j_aload_n 26 dL_law_25 rfl rfl 0 rfl ?_
    refine j_slen 27 dL_law_26 rfl ?_
    refine j_bipush (v := (8 : Int32)) 29 dL_law_27 rfl (by decide) ?_
    refine j_isub 30 dL_law_29 rfl ?_
    refine j_icmp_gt 1829 33 dL_law_30 (by decide) rfl (fun hc => ?_) (fun hc => ?_)
    · replace h := j_pos hc h
      refine j_iconst (v := (1 : Int32)) 1830 dL_law_1829 rfl (by decide) ?_
      obtain ⟨hz, h⟩ := j_gs h
      exact j_lawret dL_law_1830 (of_decide_eq_true hz)
    · replace h := j_neg hc h
      refine j_aload_n 34 dL_law_33 rfl rfl 0 rfl ?_
      refine j_iload 36 dL_law_34 rfl 4 rfl ?_
      obtain ⟨hg, h⟩ := j_gs h
      refine j_sld 37 dL_law_36 rfl (j_inv hg) ?_
      refine j_bipush (v := (31 : Int32)) 39 dL_law_37 rfl (by decide) ?_
      refine j_iand 40 dL_law_39 rfl ?_
      by_cases hc0 : ((nI (E.2.2.2 (1000 + l4.toNatClampNeg))) &&& (31 : Int32)) = (0 : Int32)
      · replace h := j_pos hc0 h
        refine j_tableIn (off := 136) 176 dL_law_40 (by decide) (by rw [hc0]; decide) (by rw [hc0]; decide) (by rw [hc0]; rfl) ?_
        exact kL_law_176    ih _ _ _ _ _ _ hL h3 h
      replace h := j_neg hc0 h
      by_cases hc1 : ((nI (E.2.2.2 (1000 + l4.toNatClampNeg))) &&& (31 : Int32)) = (1 : Int32)
      · replace h := j_pos hc1 h
        refine j_tableIn (off := 173) 213 dL_law_40 (by decide) (by rw [hc1]; decide) (by rw [hc1]; decide) (by rw [hc1]; rfl) ?_
        exact kL_law_213    ih _ _ _ _ _ _ hL h3 h
      replace h := j_neg hc1 h
      by_cases hc2 : ((nI (E.2.2.2 (1000 + l4.toNatClampNeg))) &&& (31 : Int32)) = (2 : Int32)
      · replace h := j_pos hc2 h
        refine j_tableIn (off := 234) 274 dL_law_40 (by decide) (by rw [hc2]; decide) (by rw [hc2]; decide) (by rw [hc2]; rfl) ?_
        exact kL_law_274    ih _ _ _ _ _ _ hL h3 h
      replace h := j_neg hc2 h
      by_cases hc3 : ((nI (E.2.2.2 (1000 + l4.toNatClampNeg))) &&& (31 : Int32)) = (3 : Int32)
      · replace h := j_pos hc3 h
        refine j_tableIn (off := 283) 323 dL_law_40 (by decide) (by rw [hc3]; decide) (by rw [hc3]; decide) (by rw [hc3]; rfl) ?_
        exact kL_law_323    ih _ _ _ _ _ _ hL h3 h
      replace h := j_neg hc3 h
      by_cases hc4 : ((nI (E.2.2.2 (1000 + l4.toNatClampNeg))) &&& (31 : Int32)) = (4 : Int32)
      · replace h := j_pos hc4 h
        refine j_tableIn (off := 320) 360 dL_law_40 (by decide) (by rw [hc4]; decide) (by rw [hc4]; decide) (by rw [hc4]; rfl) ?_
        exact kL_law_360    ih _ _ _ _ _ _ hL h3 h
      replace h := j_neg hc4 h
      by_cases hc5 : ((nI (E.2.2.2 (1000 + l4.toNatClampNeg))) &&& (31 : Int32)) = (5 : Int32)
      · replace h := j_pos hc5 h
        refine j_tableIn (off := 369) 409 dL_law_40 (by decide) (by rw [hc5]; decide) (by rw [hc5]; decide) (by rw [hc5]; rfl) ?_
        exact kL_law_409    ih _ _ _ _ _ _ hL h3 h
      replace h := j_neg hc5 h
      by_cases hc6 : ((nI (E.2.2.2 (1000 + l4.toNatClampNeg))) &&& (31 : Int32)) = (6 : Int32)
      · replace h := j_pos hc6 h
        refine j_tableIn (off := 422) 462 dL_law_40 (by decide) (by rw [hc6]; decide) (by rw [hc6]; decide) (by rw [hc6]; rfl) ?_
        exact kL_law_462    ih _ _ _ _ _ _ hL h3 h
      replace h := j_neg hc6 h
      by_cases hc7 : ((nI (E.2.2.2 (1000 + l4.toNatClampNeg))) &&& (31 : Int32)) = (7 : Int32)
      · replace h := j_pos hc7 h
        refine j_tableIn (off := 475) 515 dL_law_40 (by decide) (by rw [hc7]; decide) (by rw [hc7]; decide) (by rw [hc7]; rfl) ?_
        exact kL_law_515    ih _ _ _ _ _ _ hL h3 h
      replace h := j_neg hc7 h
      by_cases hc8 : ((nI (E.2.2.2 (1000 + l4.toNatClampNeg))) &&& (31 : Int32)) = (8 : Int32)
      · replace h := j_pos hc8 h
        refine j_tableIn (off := 500) 540 dL_law_40 (by decide) (by rw [hc8]; decide) (by rw [hc8]; decide) (by rw [hc8]; rfl) ?_
        exact kL_law_540    ih _ _ _ _ _ _ hL h3 h
      replace h := j_neg hc8 h
      by_cases hc9 : ((nI (E.2.2.2 (1000 + l4.toNatClampNeg))) &&& (31 : Int32)) = (9 : Int32)
      · replace h := j_pos hc9 h
        refine j_tableIn (off := 647) 687 dL_law_40 (by decide) (by rw [hc9]; decide) (by rw [hc9]; decide) (by rw [hc9]; rfl) ?_
        exact kL_law_687    ih _ _ _ _ _ _ hL h3 h
      replace h := j_neg hc9 h
      by_cases hc10 : ((nI (E.2.2.2 (1000 + l4.toNatClampNeg))) &&& (31 : Int32)) = (10 : Int32)
      · replace h := j_pos hc10 h
        refine j_tableIn (off := 660) 700 dL_law_40 (by decide) (by rw [hc10]; decide) (by rw [hc10]; decide) (by rw [hc10]; rfl) ?_
        exact kL_law_700    ih _ _ _ _ _ _ hL h3 h
      replace h := j_neg hc10 h
      by_cases hc11 : ((nI (E.2.2.2 (1000 + l4.toNatClampNeg))) &&& (31 : Int32)) = (11 : Int32)
      · replace h := j_pos hc11 h
        refine j_tableIn (off := 697) 737 dL_law_40 (by decide) (by rw [hc11]; decide) (by rw [hc11]; decide) (by rw [hc11]; rfl) ?_
        exact kL_law_737    ih _ _ _ _ _ _ hL h3 h
      replace h := j_neg hc11 h
      by_cases hc12 : ((nI (E.2.2.2 (1000 + l4.toNatClampNeg))) &&& (31 : Int32)) = (12 : Int32)
      · replace h := j_pos hc12 h
        refine j_tableIn (off := 746) 786 dL_law_40 (by decide) (by rw [hc12]; decide) (by rw [hc12]; decide) (by rw [hc12]; rfl) ?_
        exact kL_law_786    ih _ _ _ _ _ _ hL h3 h
      replace h := j_neg hc12 h
      by_cases hc13 : ((nI (E.2.2.2 (1000 + l4.toNatClampNeg))) &&& (31 : Int32)) = (13 : Int32)
      · replace h := j_pos hc13 h
        refine j_tableIn (off := 847) 887 dL_law_40 (by decide) (by rw [hc13]; decide) (by rw [hc13]; decide) (by rw [hc13]; rfl) ?_
        exact kL_law_887    ih _ _ _ _ _ _ hL h3 h
      replace h := j_neg hc13 h
      by_cases hc14 : ((nI (E.2.2.2 (1000 + l4.toNatClampNeg))) &&& (31 : Int32)) = (14 : Int32)
      · replace h := j_pos hc14 h
        refine j_tableIn (off := 948) 988 dL_law_40 (by decide) (by rw [hc14]; decide) (by rw [hc14]; decide) (by rw [hc14]; rfl) ?_
        exact kL_law_988    ih _ _ _ _ _ _ hL h3 h
      replace h := j_neg hc14 h
      by_cases hc15 : ((nI (E.2.2.2 (1000 + l4.toNatClampNeg))) &&& (31 : Int32)) = (15 : Int32)
      · replace h := j_pos hc15 h
        refine j_tableIn (off := 1016) 1056 dL_law_40 (by decide) (by rw [hc15]; decide) (by rw [hc15]; decide) (by rw [hc15]; rfl) ?_
        exact kL_law_1056    ih _ _ _ _ _ _ hL h3 h
      replace h := j_neg hc15 h
      by_cases hc16 : ((nI (E.2.2.2 (1000 + l4.toNatClampNeg))) &&& (31 : Int32)) = (16 : Int32)
      · replace h := j_pos hc16 h
        refine j_tableIn (off := 1053) 1093 dL_law_40 (by decide) (by rw [hc16]; decide) (by rw [hc16]; decide) (by rw [hc16]; rfl) ?_
        exact kL_law_1093    ih _ _ _ _ _ _ hL h3 h
      replace h := j_neg hc16 h
      by_cases hc17 : ((nI (E.2.2.2 (1000 + l4.toNatClampNeg))) &&& (31 : Int32)) = (17 : Int32)
      · replace h := j_pos hc17 h
        refine j_tableIn (off := 1090) 1130 dL_law_40 (by decide) (by rw [hc17]; decide) (by rw [hc17]; decide) (by rw [hc17]; rfl) ?_
        exact kL_law_1130    ih _ _ _ _ _ _ hL h3 h
      replace h := j_neg hc17 h
      by_cases hc18 : ((nI (E.2.2.2 (1000 + l4.toNatClampNeg))) &&& (31 : Int32)) = (18 : Int32)
      · replace h := j_pos hc18 h
        refine j_tableIn (off := 1139) 1179 dL_law_40 (by decide) (by rw [hc18]; decide) (by rw [hc18]; decide) (by rw [hc18]; rfl) ?_
        exact kL_law_1179    ih _ _ _ _ _ _ hL h3 h
      replace h := j_neg hc18 h
      by_cases hc19 : ((nI (E.2.2.2 (1000 + l4.toNatClampNeg))) &&& (31 : Int32)) = (19 : Int32)
      · replace h := j_pos hc19 h
        refine j_tableIn (off := 1176) 1216 dL_law_40 (by decide) (by rw [hc19]; decide) (by rw [hc19]; decide) (by rw [hc19]; rfl) ?_
        exact kL_law_1216    ih _ _ _ _ _ _ hL h3 h
      replace h := j_neg hc19 h
      by_cases hc20 : ((nI (E.2.2.2 (1000 + l4.toNatClampNeg))) &&& (31 : Int32)) = (20 : Int32)
      · replace h := j_pos hc20 h
        refine j_tableIn (off := 1213) 1253 dL_law_40 (by decide) (by rw [hc20]; decide) (by rw [hc20]; decide) (by rw [hc20]; rfl) ?_
        exact kL_law_1253    ih _ _ _ _ _ _ hL h3 h
      replace h := j_neg hc20 h
      by_cases hc21 : ((nI (E.2.2.2 (1000 + l4.toNatClampNeg))) &&& (31 : Int32)) = (21 : Int32)
      · replace h := j_pos hc21 h
        refine j_tableIn (off := 1250) 1290 dL_law_40 (by decide) (by rw [hc21]; decide) (by rw [hc21]; decide) (by rw [hc21]; rfl) ?_
        exact kL_law_1290    ih _ _ _ _ _ _ hL h3 h
      replace h := j_neg hc21 h
      by_cases hc22 : ((nI (E.2.2.2 (1000 + l4.toNatClampNeg))) &&& (31 : Int32)) = (22 : Int32)
      · replace h := j_pos hc22 h
        refine j_tableIn (off := 1299) 1339 dL_law_40 (by decide) (by rw [hc22]; decide) (by rw [hc22]; decide) (by rw [hc22]; rfl) ?_
        exact kL_law_1339    ih _ _ _ _ _ _ hL h3 h
      replace h := j_neg hc22 h
      by_cases hc23 : ((nI (E.2.2.2 (1000 + l4.toNatClampNeg))) &&& (31 : Int32)) = (23 : Int32)
      · replace h := j_pos hc23 h
        refine j_tableIn (off := 1336) 1376 dL_law_40 (by decide) (by rw [hc23]; decide) (by rw [hc23]; decide) (by rw [hc23]; rfl) ?_
        exact kL_law_1376    ih _ _ _ _ _ _ hL h3 h
      replace h := j_neg hc23 h
      by_cases hc24 : ((nI (E.2.2.2 (1000 + l4.toNatClampNeg))) &&& (31 : Int32)) = (24 : Int32)
      · replace h := j_pos hc24 h
        refine j_tableIn (off := 1397) 1437 dL_law_40 (by decide) (by rw [hc24]; decide) (by rw [hc24]; decide) (by rw [hc24]; rfl) ?_
        exact kL_law_1437    ih _ _ _ _ _ _ hL h3 h
      replace h := j_neg hc24 h
      by_cases hc25 : ((nI (E.2.2.2 (1000 + l4.toNatClampNeg))) &&& (31 : Int32)) = (25 : Int32)
      · replace h := j_pos hc25 h
        refine j_tableIn (off := 1484) 1524 dL_law_40 (by decide) (by rw [hc25]; decide) (by rw [hc25]; decide) (by rw [hc25]; rfl) ?_
        exact kL_law_1524    ih _ _ _ _ _ _ hL h3 h
      replace h := j_neg hc25 h
      by_cases hc26 : ((nI (E.2.2.2 (1000 + l4.toNatClampNeg))) &&& (31 : Int32)) = (26 : Int32)
      · replace h := j_pos hc26 h
        refine j_tableIn (off := 1545) 1585 dL_law_40 (by decide) (by rw [hc26]; decide) (by rw [hc26]; decide) (by rw [hc26]; rfl) ?_
        exact kL_law_1585    ih _ _ _ _ _ _ hL h3 h
      replace h := j_neg hc26 h
      by_cases hc27 : ((nI (E.2.2.2 (1000 + l4.toNatClampNeg))) &&& (31 : Int32)) = (27 : Int32)
      · replace h := j_pos hc27 h
        refine j_tableIn (off := 1632) 1672 dL_law_40 (by decide) (by rw [hc27]; decide) (by rw [hc27]; decide) (by rw [hc27]; rfl) ?_
        exact kL_law_1672    ih _ _ _ _ _ _ hL h3 h
      replace h := j_neg hc27 h
      by_cases hc28 : ((nI (E.2.2.2 (1000 + l4.toNatClampNeg))) &&& (31 : Int32)) = (28 : Int32)
      · replace h := j_pos hc28 h
        refine j_tableIn (off := 1705) 1745 dL_law_40 (by decide) (by rw [hc28]; decide) (by rw [hc28]; decide) (by rw [hc28]; rfl) ?_
        exact kL_law_1745    ih _ _ _ _ _ _ hL h3 h
      replace h := j_neg hc28 h
      by_cases hc29 : ((nI (E.2.2.2 (1000 + l4.toNatClampNeg))) &&& (31 : Int32)) = (29 : Int32)
      · replace h := j_pos hc29 h
        refine j_tableIn (off := 1758) 1798 dL_law_40 (by decide) (by rw [hc29]; decide) (by rw [hc29]; decide) (by rw [hc29]; rfl) ?_
        exact kL_law_1798    ih _ _ _ _ _ _ hL h3 h
      replace h := j_neg hc29 h
      refine j_tableOut 1823 dL_law_40 (by decide) (j_out30 hc0 hc1 hc2 hc3 hc4 hc5 hc6 hc7 hc8 hc9 hc10 hc11 hc12 hc13 hc14 hc15 hc16 hc17 hc18 hc19 hc20 hc21 hc22 hc23 hc24 hc25 hc26 hc27 hc28 hc29) ?_
      refine j_iinc (v := (l4 + (8 : Int32))) (lv' := [(4, .int (l4 + (8 : Int32))), (0, .ref (E.2.2.2 103)), (1, .ref (E.1 + 0)), (2, .ref (E.1 + 66)), (3, .ref (E.1 + 136))]) (q := 4) 1826 dL_law_1823 rfl rfl rfl (by decide) rfl ?_
      refine j_goto 23 dL_law_1826 (by decide) ?_
      refine j_sub [1, 2, 3, 4, 0] rfl ?_
      exact ih _ _ _ _ _ _ hL h3 h
