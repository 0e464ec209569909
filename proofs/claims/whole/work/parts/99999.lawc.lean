/-! the law's 21 cases (by program) -/
theorem sim_mon2 {σ τ : St} {q q' : Int} (h : Sim σ τ q) (hq : q ≤ q') : Sim σ τ q' := by
  obtain ⟨B, N, a1, a2, a3, ⟨n, m, b1, b2, b3, b4⟩, a5⟩ := h
  exact ⟨B, N, a1, a2, a3, ⟨n, m, b1, b2, by omega, b4⟩, a5⟩
section LC
variable {l : Launch} {b Lq : Nat} {xs : Nat → Int32} {ce sl : Nat} {w wm : Wo} {i : Int32} {σ τ : St} {F : Nat} {q : Int}
theorem law_c0 (hF : 10000 + bnd 40 ≤ F) (hce : ce ≤ 600000) (hsl : sl ≤ 7302250) (hw : w.2.2.2 = true) (hq : q < 2147400000) (h : Sim σ τ q) (h1 : inb (i + 1) Lq = true) (h2 : inb (i + 2) Lq = true) (h3 : inb (i + 3) Lq = true) (h4 : inb (i + 4) Lq = true) (h5 : inb (i + 5) Lq = true) (kk : ∀ w' σ' τ', (w' = w ∨ w' = swW w) → Sim σ' τ' (q + 3000) → PL l b Lq xs ce sl w' wm 665 (L4 b (w.2.2.1 0) (wm.2.2.1 0) i) [] σ' τ') : PL l b Lq xs ce sl w wm 132 (L4 b (w.2.2.1 0) (wm.2.2.1 0) i) [] σ τ := by
  obtain ⟨r, σ', τ', e1, e2, e3⟩ := op_feed h (Nat.le_trans (Nat.le_add_right _ _) hF) (xs (ix (i + 1))) (xs (ix (i + 2))) (xs (ix (i + 3))) (xs (ix (i + 4))) (xs (ix (i + 5)))
  refine pl_aload (pc' := 133) 1 d_law_132 rfl rfl rfl ?_
  refine pl_aload (pc' := 134) 0 d_law_133 rfl rfl rfl ?_
  refine pl_iload (pc' := 135) 3 d_law_134 rfl rfl rfl ?_
  refine pl_iconst (pc' := 136) (v := 1) d_law_135 rfl rfl ?_
  refine pl_iadd (pc' := 137) d_law_136 rfl ?_
  refine pl_sld (pc' := 138) h1 d_law_137 rfl ?_
  refine pl_aload (pc' := 139) 0 d_law_138 rfl rfl rfl ?_
  refine pl_iload (pc' := 140) 3 d_law_139 rfl rfl rfl ?_
  refine pl_iconst (pc' := 141) (v := 2) d_law_140 rfl rfl ?_
  refine pl_iadd (pc' := 142) d_law_141 rfl ?_
  refine pl_sld (pc' := 143) h2 d_law_142 rfl ?_
  refine pl_aload (pc' := 144) 0 d_law_143 rfl rfl rfl ?_
  refine pl_iload (pc' := 145) 3 d_law_144 rfl rfl rfl ?_
  refine pl_iconst (pc' := 146) (v := 3) d_law_145 rfl rfl ?_
  refine pl_iadd (pc' := 147) d_law_146 rfl ?_
  refine pl_sld (pc' := 148) h3 d_law_147 rfl ?_
  refine pl_aload (pc' := 149) 0 d_law_148 rfl rfl rfl ?_
  refine pl_iload (pc' := 150) 3 d_law_149 rfl rfl rfl ?_
  refine pl_iconst (pc' := 151) (v := 4) d_law_150 rfl rfl ?_
  refine pl_iadd (pc' := 152) d_law_151 rfl ?_
  refine pl_sld (pc' := 153) h4 d_law_152 rfl ?_
  refine pl_aload (pc' := 154) 0 d_law_153 rfl rfl rfl ?_
  refine pl_iload (pc' := 155) 3 d_law_154 rfl rfl rfl ?_
  refine pl_iconst (pc' := 156) (v := 5) d_law_155 rfl rfl ?_
  refine pl_iadd (pc' := 157) d_law_156 rfl ?_
  refine pl_sld (pc' := 158) h5 d_law_157 rfl ?_
  refine pl_callC (pc' := 161) (q := (r, σ')) (k_X11_feed l w F _ _ _ _ _ σ _ e1) (fun _ _ _ _ h => Or.inl h) rfl ml_X11_feed vl_X11_feed rfl rfl (Nat.le_of_ble_eq_true rfl) (Nat.le_of_ble_eq_true rfl) hce hsl d_law_158 rfl (fun w' hw' => ?_)
  refine pl_aload (pc' := 162) 2 d_law_161 rfl rfl rfl ?_
  refine pl_aload (pc' := 163) 0 d_law_162 rfl rfl rfl ?_
  refine pl_iload (pc' := 164) 3 d_law_163 rfl rfl rfl ?_
  refine pl_iconst (pc' := 165) (v := 1) d_law_164 rfl rfl ?_
  refine pl_iadd (pc' := 166) d_law_165 rfl ?_
  refine pl_sld (pc' := 167) h1 d_law_166 rfl ?_
  refine pl_aload (pc' := 168) 0 d_law_167 rfl rfl rfl ?_
  refine pl_iload (pc' := 169) 3 d_law_168 rfl rfl rfl ?_
  refine pl_iconst (pc' := 170) (v := 2) d_law_169 rfl rfl ?_
  refine pl_iadd (pc' := 171) d_law_170 rfl ?_
  refine pl_sld (pc' := 172) h2 d_law_171 rfl ?_
  refine pl_aload (pc' := 173) 0 d_law_172 rfl rfl rfl ?_
  refine pl_iload (pc' := 174) 3 d_law_173 rfl rfl rfl ?_
  refine pl_iconst (pc' := 175) (v := 3) d_law_174 rfl rfl ?_
  refine pl_iadd (pc' := 176) d_law_175 rfl ?_
  refine pl_sld (pc' := 177) h3 d_law_176 rfl ?_
  refine pl_aload (pc' := 178) 0 d_law_177 rfl rfl rfl ?_
  refine pl_iload (pc' := 179) 3 d_law_178 rfl rfl rfl ?_
  refine pl_iconst (pc' := 180) (v := 4) d_law_179 rfl rfl ?_
  refine pl_iadd (pc' := 181) d_law_180 rfl ?_
  refine pl_sld (pc' := 182) h4 d_law_181 rfl ?_
  refine pl_aload (pc' := 183) 0 d_law_182 rfl rfl rfl ?_
  refine pl_iload (pc' := 184) 3 d_law_183 rfl rfl rfl ?_
  refine pl_iconst (pc' := 185) (v := 5) d_law_184 rfl rfl ?_
  refine pl_iadd (pc' := 186) d_law_185 rfl ?_
  refine pl_sld (pc' := 187) h5 d_law_186 rfl ?_
  refine pl_callM (pc' := 190) (q := (r, τ')) (k_X12_feed l wm F _ _ _ _ _ τ _ e2) rfl ml_X12_feed vl_X12_feed rfl rfl (Nat.le_of_ble_eq_true rfl) (Nat.le_of_ble_eq_true rfl) hce hsl d_law_187 rfl ?_
  refine pl_eqT (tgt := 665) d_law_190 (by decide) ?_
  exact kk w' σ' τ' hw' (sim_mon2 e3 (by omega))
theorem law_c1 (hF : 10000 + bnd 40 ≤ F) (hce : ce ≤ 600000) (hsl : sl ≤ 7302250) (hw : w.2.2.2 = true) (hq : q < 2147400000) (h : Sim σ τ q) (h1 : inb (i + 1) Lq = true) (kk : ∀ w' σ' τ', (w' = w ∨ w' = swW w) → Sim σ' τ' (q + 3000) → PL l b Lq xs ce sl w' wm 665 (L4 b (w.2.2.1 0) (wm.2.2.1 0) i) [] σ' τ') : PL l b Lq xs ce sl w wm 195 (L4 b (w.2.2.1 0) (wm.2.2.1 0) i) [] σ τ := by
  obtain ⟨r, σ', τ', e1, e2, e3⟩ := op_cut h  (xs (ix (i + 1)))
  refine pl_aload (pc' := 196) 1 d_law_195 rfl rfl rfl ?_
  refine pl_aload (pc' := 197) 0 d_law_196 rfl rfl rfl ?_
  refine pl_iload (pc' := 198) 3 d_law_197 rfl rfl rfl ?_
  refine pl_iconst (pc' := 199) (v := 1) d_law_198 rfl rfl ?_
  refine pl_iadd (pc' := 200) d_law_199 rfl ?_
  refine pl_sld (pc' := 201) h1 d_law_200 rfl ?_
  refine pl_callC (pc' := 204) (q := (r, σ')) (k_X11_cut l w _ σ _ e1) (fun _ _ _ _ h => Or.inl h) rfl ml_X11_cut vl_X11_cut rfl rfl (Nat.le_of_ble_eq_true rfl) (Nat.le_of_ble_eq_true rfl) hce hsl d_law_201 rfl (fun w' hw' => ?_)
  refine pl_aload (pc' := 205) 2 d_law_204 rfl rfl rfl ?_
  refine pl_aload (pc' := 206) 0 d_law_205 rfl rfl rfl ?_
  refine pl_iload (pc' := 207) 3 d_law_206 rfl rfl rfl ?_
  refine pl_iconst (pc' := 208) (v := 1) d_law_207 rfl rfl ?_
  refine pl_iadd (pc' := 209) d_law_208 rfl ?_
  refine pl_sld (pc' := 210) h1 d_law_209 rfl ?_
  refine pl_callM (pc' := 213) (q := (r, τ')) (k_X12_cut l wm _ τ _ e2) rfl ml_X12_cut vl_X12_cut rfl rfl (Nat.le_of_ble_eq_true rfl) (Nat.le_of_ble_eq_true rfl) hce hsl d_law_210 rfl ?_
  refine pl_eqT (tgt := 665) d_law_213 (by decide) ?_
  exact kk w' σ' τ' hw' (sim_mon2 e3 (by omega))
theorem law_c2 (hF : 10000 + bnd 40 ≤ F) (hce : ce ≤ 600000) (hsl : sl ≤ 7302250) (hw : w.2.2.2 = true) (hq : q < 2147400000) (h : Sim σ τ q)  (kk : ∀ w' σ' τ', (w' = w ∨ w' = swW w) → Sim σ' τ' (q + 3000) → PL l b Lq xs ce sl w' wm 665 (L4 b (w.2.2.1 0) (wm.2.2.1 0) i) [] σ' τ') : PL l b Lq xs ce sl w wm 218 (L4 b (w.2.2.1 0) (wm.2.2.1 0) i) [] σ τ := by
  obtain ⟨r, σ', τ', e1, e2, e3⟩ := op_read (Nat.le_trans (Nat.le_add_right _ _) hF) h
  refine pl_aload (pc' := 219) 1 d_law_218 rfl rfl rfl ?_
  refine pl_callC (pc' := 222) (q := (r, σ')) (k_X11_read l w hw F  σ _ e1) (fun _ _ _ _ h => h) rfl ml_X11_read vl_X11_read rfl rfl (Nat.le_of_ble_eq_true rfl) (Nat.le_of_ble_eq_true rfl) hce hsl d_law_219 rfl (fun w' hw' => ?_)
  refine pl_aload (pc' := 223) 2 d_law_222 rfl rfl rfl ?_
  refine pl_callM (pc' := 226) (q := (r, τ')) (k_X12_read l wm F  τ _ e2) rfl ml_X12_read vl_X12_read rfl rfl (Nat.le_of_ble_eq_true rfl) (Nat.le_of_ble_eq_true rfl) hce hsl d_law_223 rfl ?_
  refine pl_eqT (tgt := 665) d_law_226 (by decide) ?_
  exact kk w' σ' τ' hw' (sim_mon2 e3 (by omega))
theorem law_c3 (hF : 10000 + bnd 40 ≤ F) (hce : ce ≤ 600000) (hsl : sl ≤ 7302250) (hw : w.2.2.2 = true) (hq : q < 2147400000) (h : Sim σ τ q)  (kk : ∀ w' σ' τ', (w' = w ∨ w' = swW w) → Sim σ' τ' (q + 3000) → PL l b Lq xs ce sl w' wm 665 (L4 b (w.2.2.1 0) (wm.2.2.1 0) i) [] σ' τ') : PL l b Lq xs ce sl w wm 231 (L4 b (w.2.2.1 0) (wm.2.2.1 0) i) [] σ τ := by
  obtain ⟨r, σ', τ', e1, e2, e3⟩ := op_place h
  have x1 : f_X11_place σ = r ∧ σ = σ' := ⟨congrArg (fun z => z.1) (Option.some.inj e1), congrArg (fun z => z.2) (Option.some.inj e1)⟩
  have x2 : f_X12_place τ = r ∧ τ = τ' := ⟨congrArg (fun z => z.1) (Option.some.inj e2), congrArg (fun z => z.2) (Option.some.inj e2)⟩
  rw [← x1.2, ← x2.2] at e3
  refine pl_aload (pc' := 232) 1 d_law_231 rfl rfl rfl ?_
  refine pl_callC (pc' := 235) (q := (r, σ)) (k_X11_place l w σ r (by rw [x1.1])) (fun _ _ _ _ h => Or.inl h) rfl ml_X11_place vl_X11_place rfl rfl (Nat.le_of_ble_eq_true rfl) (Nat.le_of_ble_eq_true rfl) hce hsl d_law_232 rfl (fun w' hw' => ?_)
  refine pl_aload (pc' := 236) 2 d_law_235 rfl rfl rfl ?_
  refine pl_callM (pc' := 239) (q := (r, τ)) (k_X12_place l wm τ r (by rw [x2.1])) rfl ml_X12_place vl_X12_place rfl rfl (Nat.le_of_ble_eq_true rfl) (Nat.le_of_ble_eq_true rfl) hce hsl d_law_236 rfl ?_
  refine pl_eqT (tgt := 665) d_law_239 (by decide) ?_
  exact kk w' σ τ hw' (sim_mon2 e3 (by omega))
theorem law_c4 (hF : 10000 + bnd 40 ≤ F) (hce : ce ≤ 600000) (hsl : sl ≤ 7302250) (hw : w.2.2.2 = true) (hq : q < 2147400000) (h : Sim σ τ q) (h1 : inb (i + 1) Lq = true) (kk : ∀ w' σ' τ', (w' = w ∨ w' = swW w) → Sim σ' τ' (q + 3000) → PL l b Lq xs ce sl w' wm 665 (L4 b (w.2.2.1 0) (wm.2.2.1 0) i) [] σ' τ') : PL l b Lq xs ce sl w wm 244 (L4 b (w.2.2.1 0) (wm.2.2.1 0) i) [] σ τ := by
  obtain ⟨r, σ', τ', e1, e2, e3⟩ := op_count h (Nat.le_trans (Nat.le_add_right _ _) hF) (xs (ix (i + 1)))
  obtain ⟨v2, u3, u4⟩ := Option.map_eq_some_iff.mp e2
  cases u4
  refine pl_aload (pc' := 245) 1 d_law_244 rfl rfl rfl ?_
  refine pl_aload (pc' := 246) 0 d_law_245 rfl rfl rfl ?_
  refine pl_iload (pc' := 247) 3 d_law_246 rfl rfl rfl ?_
  refine pl_iconst (pc' := 248) (v := 1) d_law_247 rfl rfl ?_
  refine pl_iadd (pc' := 249) d_law_248 rfl ?_
  refine pl_sld (pc' := 250) h1 d_law_249 rfl ?_
  refine pl_callC (pc' := 253) (q := (r, σ')) (k_X11_count l w F _ σ _ e1) (fun _ _ _ _ h => Or.inl h) rfl ml_X11_count vl_X11_count rfl rfl (Nat.le_of_ble_eq_true rfl) (Nat.le_of_ble_eq_true rfl) hce hsl d_law_250 rfl (fun w' hw' => ?_)
  refine pl_aload (pc' := 254) 2 d_law_253 rfl rfl rfl ?_
  refine pl_aload (pc' := 255) 0 d_law_254 rfl rfl rfl ?_
  refine pl_iload (pc' := 256) 3 d_law_255 rfl rfl rfl ?_
  refine pl_iconst (pc' := 257) (v := 1) d_law_256 rfl rfl ?_
  refine pl_iadd (pc' := 258) d_law_257 rfl ?_
  refine pl_sld (pc' := 259) h1 d_law_258 rfl ?_
  refine pl_callM (pc' := 262) (q := (r, τ)) (k_X12_count l wm F _ τ r u3) rfl ml_X12_count vl_X12_count rfl rfl (Nat.le_of_ble_eq_true rfl) (Nat.le_of_ble_eq_true rfl) hce hsl d_law_259 rfl ?_
  refine pl_eqT (tgt := 665) d_law_262 (by decide) ?_
  exact kk w' σ' τ hw' (sim_mon2 e3 (by omega))
theorem law_c5 (hF : 10000 + bnd 40 ≤ F) (hce : ce ≤ 600000) (hsl : sl ≤ 7302250) (hw : w.2.2.2 = true) (hq : q < 2147400000) (h : Sim σ τ q) (h1 : inb (i + 1) Lq = true) (h2 : inb (i + 2) Lq = true) (kk : ∀ w' σ' τ', (w' = w ∨ w' = swW w) → Sim σ' τ' (q + 3000) → PL l b Lq xs ce sl w' wm 665 (L4 b (w.2.2.1 0) (wm.2.2.1 0) i) [] σ' τ') : PL l b Lq xs ce sl w wm 267 (L4 b (w.2.2.1 0) (wm.2.2.1 0) i) [] σ τ := by
  obtain ⟨r, e1, e2⟩ := op_kind h (Nat.le_trans (Nat.le_add_right _ _) hF) (xs (ix (i + 1))) (xs (ix (i + 2)))
  have e3 := h
  refine pl_aload (pc' := 268) 1 d_law_267 rfl rfl rfl ?_
  refine pl_aload (pc' := 269) 0 d_law_268 rfl rfl rfl ?_
  refine pl_iload (pc' := 270) 3 d_law_269 rfl rfl rfl ?_
  refine pl_iconst (pc' := 271) (v := 1) d_law_270 rfl rfl ?_
  refine pl_iadd (pc' := 272) d_law_271 rfl ?_
  refine pl_sld (pc' := 273) h1 d_law_272 rfl ?_
  refine pl_aload (pc' := 274) 0 d_law_273 rfl rfl rfl ?_
  refine pl_iload (pc' := 275) 3 d_law_274 rfl rfl rfl ?_
  refine pl_iconst (pc' := 276) (v := 2) d_law_275 rfl rfl ?_
  refine pl_iadd (pc' := 277) d_law_276 rfl ?_
  refine pl_sld (pc' := 278) h2 d_law_277 rfl ?_
  refine pl_callC (pc' := 281) (q := (r, σ)) (k_X11_kind l w F _ _ σ _ e1) (fun _ _ _ _ h => Or.inl h) rfl ml_X11_kind vl_X11_kind rfl rfl (Nat.le_of_ble_eq_true rfl) (Nat.le_of_ble_eq_true rfl) hce hsl d_law_278 rfl (fun w' hw' => ?_)
  refine pl_aload (pc' := 282) 2 d_law_281 rfl rfl rfl ?_
  refine pl_aload (pc' := 283) 0 d_law_282 rfl rfl rfl ?_
  refine pl_iload (pc' := 284) 3 d_law_283 rfl rfl rfl ?_
  refine pl_iconst (pc' := 285) (v := 1) d_law_284 rfl rfl ?_
  refine pl_iadd (pc' := 286) d_law_285 rfl ?_
  refine pl_sld (pc' := 287) h1 d_law_286 rfl ?_
  refine pl_aload (pc' := 288) 0 d_law_287 rfl rfl rfl ?_
  refine pl_iload (pc' := 289) 3 d_law_288 rfl rfl rfl ?_
  refine pl_iconst (pc' := 290) (v := 2) d_law_289 rfl rfl ?_
  refine pl_iadd (pc' := 291) d_law_290 rfl ?_
  refine pl_sld (pc' := 292) h2 d_law_291 rfl ?_
  refine pl_callM (pc' := 295) (q := (r, τ)) (k_X12_kind l wm F _ _ τ _ e2) rfl ml_X12_kind vl_X12_kind rfl rfl (Nat.le_of_ble_eq_true rfl) (Nat.le_of_ble_eq_true rfl) hce hsl d_law_292 rfl ?_
  refine pl_eqT (tgt := 665) d_law_295 (by decide) ?_
  exact kk w' σ τ hw' (sim_mon2 e3 (by omega))
theorem law_c6 (hF : 10000 + bnd 40 ≤ F) (hce : ce ≤ 600000) (hsl : sl ≤ 7302250) (hw : w.2.2.2 = true) (hq : q < 2147400000) (h : Sim σ τ q) (h1 : inb (i + 1) Lq = true) (h2 : inb (i + 2) Lq = true) (kk : ∀ w' σ' τ', (w' = w ∨ w' = swW w) → Sim σ' τ' (q + 3000) → PL l b Lq xs ce sl w' wm 665 (L4 b (w.2.2.1 0) (wm.2.2.1 0) i) [] σ' τ') : PL l b Lq xs ce sl w wm 300 (L4 b (w.2.2.1 0) (wm.2.2.1 0) i) [] σ τ := by
  obtain ⟨r, e1, e2⟩ := op_rule h  (xs (ix (i + 1))) (xs (ix (i + 2)))
  have e3 := h
  refine pl_aload (pc' := 301) 1 d_law_300 rfl rfl rfl ?_
  refine pl_aload (pc' := 302) 0 d_law_301 rfl rfl rfl ?_
  refine pl_iload (pc' := 303) 3 d_law_302 rfl rfl rfl ?_
  refine pl_iconst (pc' := 304) (v := 1) d_law_303 rfl rfl ?_
  refine pl_iadd (pc' := 305) d_law_304 rfl ?_
  refine pl_sld (pc' := 306) h1 d_law_305 rfl ?_
  refine pl_aload (pc' := 307) 0 d_law_306 rfl rfl rfl ?_
  refine pl_iload (pc' := 308) 3 d_law_307 rfl rfl rfl ?_
  refine pl_iconst (pc' := 309) (v := 2) d_law_308 rfl rfl ?_
  refine pl_iadd (pc' := 310) d_law_309 rfl ?_
  refine pl_sld (pc' := 311) h2 d_law_310 rfl ?_
  refine pl_callC (pc' := 314) (q := (r, σ)) (k_X11_rule l w _ _ σ _ e1) (fun _ _ _ _ h => Or.inl h) rfl ml_X11_rule vl_X11_rule rfl rfl (Nat.le_of_ble_eq_true rfl) (Nat.le_of_ble_eq_true rfl) hce hsl d_law_311 rfl (fun w' hw' => ?_)
  refine pl_aload (pc' := 315) 2 d_law_314 rfl rfl rfl ?_
  refine pl_aload (pc' := 316) 0 d_law_315 rfl rfl rfl ?_
  refine pl_iload (pc' := 317) 3 d_law_316 rfl rfl rfl ?_
  refine pl_iconst (pc' := 318) (v := 1) d_law_317 rfl rfl ?_
  refine pl_iadd (pc' := 319) d_law_318 rfl ?_
  refine pl_sld (pc' := 320) h1 d_law_319 rfl ?_
  refine pl_aload (pc' := 321) 0 d_law_320 rfl rfl rfl ?_
  refine pl_iload (pc' := 322) 3 d_law_321 rfl rfl rfl ?_
  refine pl_iconst (pc' := 323) (v := 2) d_law_322 rfl rfl ?_
  refine pl_iadd (pc' := 324) d_law_323 rfl ?_
  refine pl_sld (pc' := 325) h2 d_law_324 rfl ?_
  refine pl_callM (pc' := 328) (q := (r, τ)) (k_X12_rule l wm _ _ τ _ e2) rfl ml_X12_rule vl_X12_rule rfl rfl (Nat.le_of_ble_eq_true rfl) (Nat.le_of_ble_eq_true rfl) hce hsl d_law_325 rfl ?_
  refine pl_eqT (tgt := 665) d_law_328 (by decide) ?_
  exact kk w' σ τ hw' (sim_mon2 e3 (by omega))
theorem law_c7 (hF : 10000 + bnd 40 ≤ F) (hce : ce ≤ 600000) (hsl : sl ≤ 7302250) (hw : w.2.2.2 = true) (hq : q < 2147400000) (h : Sim σ τ q) (h1 : inb (i + 1) Lq = true) (kk : ∀ w' σ' τ', (w' = w ∨ w' = swW w) → Sim σ' τ' (q + 3000) → PL l b Lq xs ce sl w' wm 665 (L4 b (w.2.2.1 0) (wm.2.2.1 0) i) [] σ' τ') : PL l b Lq xs ce sl w wm 333 (L4 b (w.2.2.1 0) (wm.2.2.1 0) i) [] σ τ := by
  obtain ⟨r, e1, e2⟩ := op_agent h  (xs (ix (i + 1)))
  have e3 := h
  refine pl_aload (pc' := 334) 1 d_law_333 rfl rfl rfl ?_
  refine pl_aload (pc' := 335) 0 d_law_334 rfl rfl rfl ?_
  refine pl_iload (pc' := 336) 3 d_law_335 rfl rfl rfl ?_
  refine pl_iconst (pc' := 337) (v := 1) d_law_336 rfl rfl ?_
  refine pl_iadd (pc' := 338) d_law_337 rfl ?_
  refine pl_sld (pc' := 339) h1 d_law_338 rfl ?_
  refine pl_callC (pc' := 342) (q := (r, σ)) (k_X11_agent l w _ σ _ e1) (fun _ _ _ _ h => Or.inl h) rfl ml_X11_agent vl_X11_agent rfl rfl (Nat.le_of_ble_eq_true rfl) (Nat.le_of_ble_eq_true rfl) hce hsl d_law_339 rfl (fun w' hw' => ?_)
  refine pl_aload (pc' := 343) 2 d_law_342 rfl rfl rfl ?_
  refine pl_aload (pc' := 344) 0 d_law_343 rfl rfl rfl ?_
  refine pl_iload (pc' := 345) 3 d_law_344 rfl rfl rfl ?_
  refine pl_iconst (pc' := 346) (v := 1) d_law_345 rfl rfl ?_
  refine pl_iadd (pc' := 347) d_law_346 rfl ?_
  refine pl_sld (pc' := 348) h1 d_law_347 rfl ?_
  refine pl_callM (pc' := 351) (q := (r, τ)) (k_X12_agent l wm _ τ _ e2) rfl ml_X12_agent vl_X12_agent rfl rfl (Nat.le_of_ble_eq_true rfl) (Nat.le_of_ble_eq_true rfl) hce hsl d_law_348 rfl ?_
  refine pl_eqT (tgt := 665) d_law_351 (by decide) ?_
  exact kk w' σ τ hw' (sim_mon2 e3 (by omega))
theorem law_c8 (hF : 10000 + bnd 40 ≤ F) (hce : ce ≤ 600000) (hsl : sl ≤ 7302250) (hw : w.2.2.2 = true) (hq : q < 2147400000) (h : Sim σ τ q) (h1 : inb (i + 1) Lq = true) (h2 : inb (i + 2) Lq = true) (kk : ∀ w' σ' τ', (w' = w ∨ w' = swW w) → Sim σ' τ' (q + 3000) → PL l b Lq xs ce sl w' wm 665 (L4 b (w.2.2.1 0) (wm.2.2.1 0) i) [] σ' τ') : PL l b Lq xs ce sl w wm 356 (L4 b (w.2.2.1 0) (wm.2.2.1 0) i) [] σ τ := by
  obtain ⟨r, e1, e2⟩ := op_wired h  (xs (ix (i + 1))) (xs (ix (i + 2)))
  have e3 := h
  refine pl_aload (pc' := 357) 1 d_law_356 rfl rfl rfl ?_
  refine pl_aload (pc' := 358) 0 d_law_357 rfl rfl rfl ?_
  refine pl_iload (pc' := 359) 3 d_law_358 rfl rfl rfl ?_
  refine pl_iconst (pc' := 360) (v := 1) d_law_359 rfl rfl ?_
  refine pl_iadd (pc' := 361) d_law_360 rfl ?_
  refine pl_sld (pc' := 362) h1 d_law_361 rfl ?_
  refine pl_aload (pc' := 363) 0 d_law_362 rfl rfl rfl ?_
  refine pl_iload (pc' := 364) 3 d_law_363 rfl rfl rfl ?_
  refine pl_iconst (pc' := 365) (v := 2) d_law_364 rfl rfl ?_
  refine pl_iadd (pc' := 366) d_law_365 rfl ?_
  refine pl_sld (pc' := 367) h2 d_law_366 rfl ?_
  refine pl_callC (pc' := 370) (q := (r, σ)) (k_X11_wired l w _ _ σ _ e1) (fun _ _ _ _ h => Or.inl h) rfl ml_X11_wired vl_X11_wired rfl rfl (Nat.le_of_ble_eq_true rfl) (Nat.le_of_ble_eq_true rfl) hce hsl d_law_367 rfl (fun w' hw' => ?_)
  refine pl_aload (pc' := 371) 2 d_law_370 rfl rfl rfl ?_
  refine pl_aload (pc' := 372) 0 d_law_371 rfl rfl rfl ?_
  refine pl_iload (pc' := 373) 3 d_law_372 rfl rfl rfl ?_
  refine pl_iconst (pc' := 374) (v := 1) d_law_373 rfl rfl ?_
  refine pl_iadd (pc' := 375) d_law_374 rfl ?_
  refine pl_sld (pc' := 376) h1 d_law_375 rfl ?_
  refine pl_aload (pc' := 377) 0 d_law_376 rfl rfl rfl ?_
  refine pl_iload (pc' := 378) 3 d_law_377 rfl rfl rfl ?_
  refine pl_iconst (pc' := 379) (v := 2) d_law_378 rfl rfl ?_
  refine pl_iadd (pc' := 380) d_law_379 rfl ?_
  refine pl_sld (pc' := 381) h2 d_law_380 rfl ?_
  refine pl_callM (pc' := 384) (q := (r, τ)) (k_X12_wired l wm _ _ τ _ e2) rfl ml_X12_wired vl_X12_wired rfl rfl (Nat.le_of_ble_eq_true rfl) (Nat.le_of_ble_eq_true rfl) hce hsl d_law_381 rfl ?_
  refine pl_eqT (tgt := 665) d_law_384 (by decide) ?_
  exact kk w' σ τ hw' (sim_mon2 e3 (by omega))
theorem law_c9 (hF : 10000 + bnd 40 ≤ F) (hce : ce ≤ 600000) (hsl : sl ≤ 7302250) (hw : w.2.2.2 = true) (hq : q < 2147400000) (h : Sim σ τ q) (h1 : inb (i + 1) Lq = true) (kk : ∀ w' σ' τ', (w' = w ∨ w' = swW w) → Sim σ' τ' (q + 3000) → PL l b Lq xs ce sl w' wm 665 (L4 b (w.2.2.1 0) (wm.2.2.1 0) i) [] σ' τ') : PL l b Lq xs ce sl w wm 389 (L4 b (w.2.2.1 0) (wm.2.2.1 0) i) [] σ τ := by
  obtain ⟨r, e1, e2⟩ := op_end h  (xs (ix (i + 1)))
  have e3 := h
  refine pl_aload (pc' := 390) 1 d_law_389 rfl rfl rfl ?_
  refine pl_aload (pc' := 391) 0 d_law_390 rfl rfl rfl ?_
  refine pl_iload (pc' := 392) 3 d_law_391 rfl rfl rfl ?_
  refine pl_iconst (pc' := 393) (v := 1) d_law_392 rfl rfl ?_
  refine pl_iadd (pc' := 394) d_law_393 rfl ?_
  refine pl_sld (pc' := 395) h1 d_law_394 rfl ?_
  refine pl_callC (pc' := 398) (q := (r, σ)) (k_X11_end l w _ σ _ e1) (fun _ _ _ _ h => Or.inl h) rfl ml_X11_end vl_X11_end rfl rfl (Nat.le_of_ble_eq_true rfl) (Nat.le_of_ble_eq_true rfl) hce hsl d_law_395 rfl (fun w' hw' => ?_)
  refine pl_aload (pc' := 399) 2 d_law_398 rfl rfl rfl ?_
  refine pl_aload (pc' := 400) 0 d_law_399 rfl rfl rfl ?_
  refine pl_iload (pc' := 401) 3 d_law_400 rfl rfl rfl ?_
  refine pl_iconst (pc' := 402) (v := 1) d_law_401 rfl rfl ?_
  refine pl_iadd (pc' := 403) d_law_402 rfl ?_
  refine pl_sld (pc' := 404) h1 d_law_403 rfl ?_
  refine pl_callM (pc' := 407) (q := (r, τ)) (k_X12_end l wm _ τ _ e2) rfl ml_X12_end vl_X12_end rfl rfl (Nat.le_of_ble_eq_true rfl) (Nat.le_of_ble_eq_true rfl) hce hsl d_law_404 rfl ?_
  refine pl_eqT (tgt := 665) d_law_407 (by decide) ?_
  exact kk w' σ τ hw' (sim_mon2 e3 (by omega))
theorem law_c10 (hF : 10000 + bnd 40 ≤ F) (hce : ce ≤ 600000) (hsl : sl ≤ 7302250) (hw : w.2.2.2 = true) (hq : q < 2147400000) (h : Sim σ τ q) (h1 : inb (i + 1) Lq = true) (kk : ∀ w' σ' τ', (w' = w ∨ w' = swW w) → Sim σ' τ' (q + 3000) → PL l b Lq xs ce sl w' wm 665 (L4 b (w.2.2.1 0) (wm.2.2.1 0) i) [] σ' τ') : PL l b Lq xs ce sl w wm 412 (L4 b (w.2.2.1 0) (wm.2.2.1 0) i) [] σ τ := by
  obtain ⟨r, e1, e2⟩ := op_pair h (Nat.le_trans (Nat.le_add_right _ _) hF) (xs (ix (i + 1)))
  have e3 := h
  refine pl_aload (pc' := 413) 1 d_law_412 rfl rfl rfl ?_
  refine pl_aload (pc' := 414) 0 d_law_413 rfl rfl rfl ?_
  refine pl_iload (pc' := 415) 3 d_law_414 rfl rfl rfl ?_
  refine pl_iconst (pc' := 416) (v := 1) d_law_415 rfl rfl ?_
  refine pl_iadd (pc' := 417) d_law_416 rfl ?_
  refine pl_sld (pc' := 418) h1 d_law_417 rfl ?_
  refine pl_callC (pc' := 421) (q := (r, σ)) (k_X11_pair l w F _ σ _ e1) (fun _ _ _ _ h => Or.inl h) rfl ml_X11_pair vl_X11_pair rfl rfl (Nat.le_of_ble_eq_true rfl) (Nat.le_of_ble_eq_true rfl) hce hsl d_law_418 rfl (fun w' hw' => ?_)
  refine pl_aload (pc' := 422) 2 d_law_421 rfl rfl rfl ?_
  refine pl_aload (pc' := 423) 0 d_law_422 rfl rfl rfl ?_
  refine pl_iload (pc' := 424) 3 d_law_423 rfl rfl rfl ?_
  refine pl_iconst (pc' := 425) (v := 1) d_law_424 rfl rfl ?_
  refine pl_iadd (pc' := 426) d_law_425 rfl ?_
  refine pl_sld (pc' := 427) h1 d_law_426 rfl ?_
  refine pl_callM (pc' := 430) (q := (r, τ)) (k_X12_pair l wm F _ τ _ e2) rfl ml_X12_pair vl_X12_pair rfl rfl (Nat.le_of_ble_eq_true rfl) (Nat.le_of_ble_eq_true rfl) hce hsl d_law_427 rfl ?_
  refine pl_eqT (tgt := 665) d_law_430 (by decide) ?_
  exact kk w' σ τ hw' (sim_mon2 e3 (by omega))
theorem law_c11 (hF : 10000 + bnd 40 ≤ F) (hce : ce ≤ 600000) (hsl : sl ≤ 7302250) (hw : w.2.2.2 = true) (hq : q < 2147400000) (h : Sim σ τ q) (h1 : inb (i + 1) Lq = true) (kk : ∀ w' σ' τ', (w' = w ∨ w' = swW w) → Sim σ' τ' (q + 3000) → PL l b Lq xs ce sl w' wm 665 (L4 b (w.2.2.1 0) (wm.2.2.1 0) i) [] σ' τ') : PL l b Lq xs ce sl w wm 435 (L4 b (w.2.2.1 0) (wm.2.2.1 0) i) [] σ τ := by
  obtain ⟨r, σ', τ', e1, e2, e3⟩ := op_step h (Nat.le_trans (Nat.le_add_right _ _) hF) (by omega) (xs (ix (i + 1)))
  refine pl_aload (pc' := 436) 1 d_law_435 rfl rfl rfl ?_
  refine pl_aload (pc' := 437) 0 d_law_436 rfl rfl rfl ?_
  refine pl_iload (pc' := 438) 3 d_law_437 rfl rfl rfl ?_
  refine pl_iconst (pc' := 439) (v := 1) d_law_438 rfl rfl ?_
  refine pl_iadd (pc' := 440) d_law_439 rfl ?_
  refine pl_sld (pc' := 441) h1 d_law_440 rfl ?_
  refine pl_callC (pc' := 444) (q := (r, σ')) (k_X11_step l w F _ σ _ e1) (fun _ _ _ _ h => Or.inl h) rfl ml_X11_step vl_X11_step rfl rfl (Nat.le_of_ble_eq_true rfl) (Nat.le_of_ble_eq_true rfl) hce hsl d_law_441 rfl (fun w' hw' => ?_)
  refine pl_aload (pc' := 445) 2 d_law_444 rfl rfl rfl ?_
  refine pl_aload (pc' := 446) 0 d_law_445 rfl rfl rfl ?_
  refine pl_iload (pc' := 447) 3 d_law_446 rfl rfl rfl ?_
  refine pl_iconst (pc' := 448) (v := 1) d_law_447 rfl rfl ?_
  refine pl_iadd (pc' := 449) d_law_448 rfl ?_
  refine pl_sld (pc' := 450) h1 d_law_449 rfl ?_
  refine pl_callM (pc' := 453) (q := (r, τ')) (k_X12_step l wm F _ τ _ e2) rfl ml_X12_step vl_X12_step rfl rfl (Nat.le_of_ble_eq_true rfl) (Nat.le_of_ble_eq_true rfl) hce hsl d_law_450 rfl ?_
  refine pl_eqT (tgt := 665) d_law_453 (by decide) ?_
  exact kk w' σ' τ' hw' (sim_mon2 e3 (by omega))
theorem law_c12 (hF : 10000 + bnd 40 ≤ F) (hce : ce ≤ 600000) (hsl : sl ≤ 7302250) (hw : w.2.2.2 = true) (hq : q < 2147400000) (h : Sim σ τ q) (h1 : inb (i + 1) Lq = true) (h2 : inb (i + 2) Lq = true) (kk : ∀ w' σ' τ', (w' = w ∨ w' = swW w) → Sim σ' τ' (q + 3000) → PL l b Lq xs ce sl w' wm 665 (L4 b (w.2.2.1 0) (wm.2.2.1 0) i) [] σ' τ') : PL l b Lq xs ce sl w wm 458 (L4 b (w.2.2.1 0) (wm.2.2.1 0) i) [] σ τ := by
  obtain ⟨r, σ', τ', e1, e2, e3⟩ := op_run h (Nat.le_trans (Nat.le_add_right _ _) hF) (by omega) (xs (ix (i + 1))) (xs (ix (i + 2)))
  refine pl_aload (pc' := 459) 1 d_law_458 rfl rfl rfl ?_
  refine pl_aload (pc' := 460) 0 d_law_459 rfl rfl rfl ?_
  refine pl_iload (pc' := 461) 3 d_law_460 rfl rfl rfl ?_
  refine pl_iconst (pc' := 462) (v := 1) d_law_461 rfl rfl ?_
  refine pl_iadd (pc' := 463) d_law_462 rfl ?_
  refine pl_sld (pc' := 464) h1 d_law_463 rfl ?_
  refine pl_aload (pc' := 465) 0 d_law_464 rfl rfl rfl ?_
  refine pl_iload (pc' := 466) 3 d_law_465 rfl rfl rfl ?_
  refine pl_iconst (pc' := 467) (v := 2) d_law_466 rfl rfl ?_
  refine pl_iadd (pc' := 468) d_law_467 rfl ?_
  refine pl_sld (pc' := 469) h2 d_law_468 rfl ?_
  refine pl_callC (pc' := 472) (q := (r, σ')) (k_X11_run l w F _ _ σ _ e1) (fun _ _ _ _ h => Or.inl h) rfl ml_X11_run vl_X11_run rfl rfl (Nat.le_of_ble_eq_true rfl) (Nat.le_of_ble_eq_true rfl) hce hsl d_law_469 rfl (fun w' hw' => ?_)
  refine pl_aload (pc' := 473) 2 d_law_472 rfl rfl rfl ?_
  refine pl_aload (pc' := 474) 0 d_law_473 rfl rfl rfl ?_
  refine pl_iload (pc' := 475) 3 d_law_474 rfl rfl rfl ?_
  refine pl_iconst (pc' := 476) (v := 1) d_law_475 rfl rfl ?_
  refine pl_iadd (pc' := 477) d_law_476 rfl ?_
  refine pl_sld (pc' := 478) h1 d_law_477 rfl ?_
  refine pl_aload (pc' := 479) 0 d_law_478 rfl rfl rfl ?_
  refine pl_iload (pc' := 480) 3 d_law_479 rfl rfl rfl ?_
  refine pl_iconst (pc' := 481) (v := 2) d_law_480 rfl rfl ?_
  refine pl_iadd (pc' := 482) d_law_481 rfl ?_
  refine pl_sld (pc' := 483) h2 d_law_482 rfl ?_
  refine pl_callM (pc' := 486) (q := (r, τ')) (k_X12_run l wm F _ _ τ _ e2) rfl ml_X12_run vl_X12_run rfl rfl (Nat.le_of_ble_eq_true rfl) (Nat.le_of_ble_eq_true rfl) hce hsl d_law_483 rfl ?_
  refine pl_eqT (tgt := 665) d_law_486 (by decide) ?_
  exact kk w' σ' τ' hw' (sim_mon2 e3 (by omega))
theorem law_c13 (hF : 10000 + bnd 40 ≤ F) (hce : ce ≤ 600000) (hsl : sl ≤ 7302250) (hw : w.2.2.2 = true) (hq : q < 2147400000) (h : Sim σ τ q) (h1 : inb (i + 1) Lq = true) (kk : ∀ w' σ' τ', (w' = w ∨ w' = swW w) → Sim σ' τ' (q + 3000) → PL l b Lq xs ce sl w' wm 665 (L4 b (w.2.2.1 0) (wm.2.2.1 0) i) [] σ' τ') : PL l b Lq xs ce sl w wm 491 (L4 b (w.2.2.1 0) (wm.2.2.1 0) i) [] σ τ := by
  obtain ⟨r, σ', τ', e1, e2, e3⟩ := op_draw h  (xs (ix (i + 1)))
  refine pl_aload (pc' := 492) 1 d_law_491 rfl rfl rfl ?_
  refine pl_aload (pc' := 493) 0 d_law_492 rfl rfl rfl ?_
  refine pl_iload (pc' := 494) 3 d_law_493 rfl rfl rfl ?_
  refine pl_iconst (pc' := 495) (v := 1) d_law_494 rfl rfl ?_
  refine pl_iadd (pc' := 496) d_law_495 rfl ?_
  refine pl_sld (pc' := 497) h1 d_law_496 rfl ?_
  refine pl_callC (pc' := 500) (q := (r, σ')) (k_X11_draw l w _ σ _ e1) (fun _ _ _ _ h => Or.inl h) rfl ml_X11_draw vl_X11_draw rfl rfl (Nat.le_of_ble_eq_true rfl) (Nat.le_of_ble_eq_true rfl) hce hsl d_law_497 rfl (fun w' hw' => ?_)
  refine pl_aload (pc' := 501) 2 d_law_500 rfl rfl rfl ?_
  refine pl_aload (pc' := 502) 0 d_law_501 rfl rfl rfl ?_
  refine pl_iload (pc' := 503) 3 d_law_502 rfl rfl rfl ?_
  refine pl_iconst (pc' := 504) (v := 1) d_law_503 rfl rfl ?_
  refine pl_iadd (pc' := 505) d_law_504 rfl ?_
  refine pl_sld (pc' := 506) h1 d_law_505 rfl ?_
  refine pl_callM (pc' := 509) (q := (r, τ')) (k_X12_draw l wm _ τ _ e2) rfl ml_X12_draw vl_X12_draw rfl rfl (Nat.le_of_ble_eq_true rfl) (Nat.le_of_ble_eq_true rfl) hce hsl d_law_506 rfl ?_
  refine pl_eqT (tgt := 665) d_law_509 (by decide) ?_
  exact kk w' σ' τ' hw' (sim_mon2 e3 (by omega))
theorem law_c14 (hF : 10000 + bnd 40 ≤ F) (hce : ce ≤ 600000) (hsl : sl ≤ 7302250) (hw : w.2.2.2 = true) (hq : q < 2147400000) (h : Sim σ τ q) (h1 : inb (i + 1) Lq = true) (kk : ∀ w' σ' τ', (w' = w ∨ w' = swW w) → Sim σ' τ' (q + 3000) → PL l b Lq xs ce sl w' wm 665 (L4 b (w.2.2.1 0) (wm.2.2.1 0) i) [] σ' τ') : PL l b Lq xs ce sl w wm 514 (L4 b (w.2.2.1 0) (wm.2.2.1 0) i) [] σ τ := by
  obtain ⟨r, e1, e2⟩ := op_trace h (by omega) (xs (ix (i + 1)))
  have e3 := h
  refine pl_aload (pc' := 515) 1 d_law_514 rfl rfl rfl ?_
  refine pl_aload (pc' := 516) 0 d_law_515 rfl rfl rfl ?_
  refine pl_iload (pc' := 517) 3 d_law_516 rfl rfl rfl ?_
  refine pl_iconst (pc' := 518) (v := 1) d_law_517 rfl rfl ?_
  refine pl_iadd (pc' := 519) d_law_518 rfl ?_
  refine pl_sld (pc' := 520) h1 d_law_519 rfl ?_
  refine pl_callC (pc' := 523) (q := (r, σ)) (k_X11_trace l w _ σ _ e1) (fun _ _ _ _ h => Or.inl h) rfl ml_X11_trace vl_X11_trace rfl rfl (Nat.le_of_ble_eq_true rfl) (Nat.le_of_ble_eq_true rfl) hce hsl d_law_520 rfl (fun w' hw' => ?_)
  refine pl_aload (pc' := 524) 2 d_law_523 rfl rfl rfl ?_
  refine pl_aload (pc' := 525) 0 d_law_524 rfl rfl rfl ?_
  refine pl_iload (pc' := 526) 3 d_law_525 rfl rfl rfl ?_
  refine pl_iconst (pc' := 527) (v := 1) d_law_526 rfl rfl ?_
  refine pl_iadd (pc' := 528) d_law_527 rfl ?_
  refine pl_sld (pc' := 529) h1 d_law_528 rfl ?_
  refine pl_callM (pc' := 532) (q := (r, τ)) (k_X12_trace l wm _ τ _ e2) rfl ml_X12_trace vl_X12_trace rfl rfl (Nat.le_of_ble_eq_true rfl) (Nat.le_of_ble_eq_true rfl) hce hsl d_law_529 rfl ?_
  refine pl_eqT (tgt := 665) d_law_532 (by decide) ?_
  exact kk w' σ τ hw' (sim_mon2 e3 (by omega))
theorem law_c15 (hF : 10000 + bnd 40 ≤ F) (hce : ce ≤ 600000) (hsl : sl ≤ 7302250) (hw : w.2.2.2 = true) (hq : q < 2147400000) (h : Sim σ τ q) (h1 : inb (i + 1) Lq = true) (kk : ∀ w' σ' τ', (w' = w ∨ w' = swW w) → Sim σ' τ' (q + 3000) → PL l b Lq xs ce sl w' wm 665 (L4 b (w.2.2.1 0) (wm.2.2.1 0) i) [] σ' τ') : PL l b Lq xs ce sl w wm 537 (L4 b (w.2.2.1 0) (wm.2.2.1 0) i) [] σ τ := by
  obtain ⟨r, σ', τ', e1, e2, e3⟩ := op_keep h (Nat.le_trans (Nat.le_add_right _ _) hF) (xs (ix (i + 1)))
  refine pl_aload (pc' := 538) 1 d_law_537 rfl rfl rfl ?_
  refine pl_aload (pc' := 539) 0 d_law_538 rfl rfl rfl ?_
  refine pl_iload (pc' := 540) 3 d_law_539 rfl rfl rfl ?_
  refine pl_iconst (pc' := 541) (v := 1) d_law_540 rfl rfl ?_
  refine pl_iadd (pc' := 542) d_law_541 rfl ?_
  refine pl_sld (pc' := 543) h1 d_law_542 rfl ?_
  refine pl_callC (pc' := 546) (q := (r, σ')) (k_X11_keep l w _ σ _ e1) (fun _ _ _ _ h => Or.inl h) rfl ml_X11_keep vl_X11_keep rfl rfl (Nat.le_of_ble_eq_true rfl) (Nat.le_of_ble_eq_true rfl) hce hsl d_law_543 rfl (fun w' hw' => ?_)
  refine pl_aload (pc' := 547) 2 d_law_546 rfl rfl rfl ?_
  refine pl_aload (pc' := 548) 0 d_law_547 rfl rfl rfl ?_
  refine pl_iload (pc' := 549) 3 d_law_548 rfl rfl rfl ?_
  refine pl_iconst (pc' := 550) (v := 1) d_law_549 rfl rfl ?_
  refine pl_iadd (pc' := 551) d_law_550 rfl ?_
  refine pl_sld (pc' := 552) h1 d_law_551 rfl ?_
  refine pl_callM (pc' := 555) (q := (r, τ')) (k_X12_keep l wm F _ τ _ e2) rfl ml_X12_keep vl_X12_keep rfl rfl (Nat.le_of_ble_eq_true rfl) (Nat.le_of_ble_eq_true rfl) hce hsl d_law_552 rfl ?_
  refine pl_eqT (tgt := 665) d_law_555 (by decide) ?_
  exact kk w' σ' τ' hw' (sim_mon2 e3 (by omega))
theorem law_c16 (hF : 10000 + bnd 40 ≤ F) (hce : ce ≤ 600000) (hsl : sl ≤ 7302250) (hw : w.2.2.2 = true) (hq : q < 2147400000) (h : Sim σ τ q) (h1 : inb (i + 1) Lq = true) (kk : ∀ w' σ' τ', (w' = w ∨ w' = swW w) → Sim σ' τ' (q + 3000) → PL l b Lq xs ce sl w' wm 665 (L4 b (w.2.2.1 0) (wm.2.2.1 0) i) [] σ' τ') : PL l b Lq xs ce sl w wm 560 (L4 b (w.2.2.1 0) (wm.2.2.1 0) i) [] σ τ := by
  obtain ⟨r, σ', τ', e1, e2, e3⟩ := op_back h (Nat.le_trans (Nat.le_add_right _ _) hF) (xs (ix (i + 1)))
  refine pl_aload (pc' := 561) 1 d_law_560 rfl rfl rfl ?_
  refine pl_aload (pc' := 562) 0 d_law_561 rfl rfl rfl ?_
  refine pl_iload (pc' := 563) 3 d_law_562 rfl rfl rfl ?_
  refine pl_iconst (pc' := 564) (v := 1) d_law_563 rfl rfl ?_
  refine pl_iadd (pc' := 565) d_law_564 rfl ?_
  refine pl_sld (pc' := 566) h1 d_law_565 rfl ?_
  refine pl_callC (pc' := 569) (q := (r, σ')) (k_X11_back l w _ σ _ e1) (fun _ _ _ _ h => Or.inl h) rfl ml_X11_back vl_X11_back rfl rfl (Nat.le_of_ble_eq_true rfl) (Nat.le_of_ble_eq_true rfl) hce hsl d_law_566 rfl (fun w' hw' => ?_)
  refine pl_aload (pc' := 570) 2 d_law_569 rfl rfl rfl ?_
  refine pl_aload (pc' := 571) 0 d_law_570 rfl rfl rfl ?_
  refine pl_iload (pc' := 572) 3 d_law_571 rfl rfl rfl ?_
  refine pl_iconst (pc' := 573) (v := 1) d_law_572 rfl rfl ?_
  refine pl_iadd (pc' := 574) d_law_573 rfl ?_
  refine pl_sld (pc' := 575) h1 d_law_574 rfl ?_
  refine pl_callM (pc' := 578) (q := (r, τ')) (k_X12_back l wm F _ τ _ e2) rfl ml_X12_back vl_X12_back rfl rfl (Nat.le_of_ble_eq_true rfl) (Nat.le_of_ble_eq_true rfl) hce hsl d_law_575 rfl ?_
  refine pl_eqT (tgt := 665) d_law_578 (by decide) ?_
  exact kk w' σ' τ' hw' (sim_mon2 e3 (by omega))
theorem law_c17 (hF : 10000 + bnd 40 ≤ F) (hce : ce ≤ 600000) (hsl : sl ≤ 7302250) (hw : w.2.2.2 = true) (hq : q < 2147400000) (h : Sim σ τ q) (h1 : inb (i + 1) Lq = true) (kk : ∀ w' σ' τ', (w' = w ∨ w' = swW w) → Sim σ' τ' (q + 3000) → PL l b Lq xs ce sl w' wm 665 (L4 b (w.2.2.1 0) (wm.2.2.1 0) i) [] σ' τ') : PL l b Lq xs ce sl w wm 583 (L4 b (w.2.2.1 0) (wm.2.2.1 0) i) [] σ τ := by
  obtain ⟨r, σ', τ', e1, e2, e3⟩ := op_like h (Nat.le_trans (Nat.le_add_right _ _) hF) (xs (ix (i + 1)))
  refine pl_aload (pc' := 584) 1 d_law_583 rfl rfl rfl ?_
  refine pl_aload (pc' := 585) 0 d_law_584 rfl rfl rfl ?_
  refine pl_iload (pc' := 586) 3 d_law_585 rfl rfl rfl ?_
  refine pl_iconst (pc' := 587) (v := 1) d_law_586 rfl rfl ?_
  refine pl_iadd (pc' := 588) d_law_587 rfl ?_
  refine pl_sld (pc' := 589) h1 d_law_588 rfl ?_
  refine pl_callC (pc' := 592) (q := (r, σ')) (k_X11_like l w F _ σ _ e1) (fun _ _ _ _ h => Or.inl h) rfl ml_X11_like vl_X11_like rfl rfl (Nat.le_of_ble_eq_true rfl) (Nat.le_of_ble_eq_true rfl) hce hsl d_law_589 rfl (fun w' hw' => ?_)
  refine pl_aload (pc' := 593) 2 d_law_592 rfl rfl rfl ?_
  refine pl_aload (pc' := 594) 0 d_law_593 rfl rfl rfl ?_
  refine pl_iload (pc' := 595) 3 d_law_594 rfl rfl rfl ?_
  refine pl_iconst (pc' := 596) (v := 1) d_law_595 rfl rfl ?_
  refine pl_iadd (pc' := 597) d_law_596 rfl ?_
  refine pl_sld (pc' := 598) h1 d_law_597 rfl ?_
  refine pl_callM (pc' := 601) (q := (r, τ')) (k_X12_like l wm F _ τ _ e2) rfl ml_X12_like vl_X12_like rfl rfl (Nat.le_of_ble_eq_true rfl) (Nat.le_of_ble_eq_true rfl) hce hsl d_law_598 rfl ?_
  refine pl_eqT (tgt := 665) d_law_601 (by decide) ?_
  exact kk w' σ' τ' hw' (sim_mon2 e3 (by omega))
theorem law_c18 (hF : 10000 + bnd 40 ≤ F) (hce : ce ≤ 600000) (hsl : sl ≤ 7302250) (hw : w.2.2.2 = true) (hq : q < 2147400000) (h : Sim σ τ q)  (kk : ∀ w' σ' τ', (w' = w ∨ w' = swW w) → Sim σ' τ' (q + 3000) → PL l b Lq xs ce sl w' wm 665 (L4 b (w.2.2.1 0) (wm.2.2.1 0) i) [] σ' τ') : PL l b Lq xs ce sl w wm 606 (L4 b (w.2.2.1 0) (wm.2.2.1 0) i) [] σ τ := by
  obtain ⟨r, σ', τ', e1, e2, e3⟩ := op_reached h (Nat.le_trans (Nat.le_add_right _ _) hF) 
  refine pl_aload (pc' := 607) 1 d_law_606 rfl rfl rfl ?_
  refine pl_callC (pc' := 610) (q := (r, σ')) (k_X11_reached l w F  σ _ e1) (fun _ _ _ _ h => Or.inl h) rfl ml_X11_reached vl_X11_reached rfl rfl (Nat.le_of_ble_eq_true rfl) (Nat.le_of_ble_eq_true rfl) hce hsl d_law_607 rfl (fun w' hw' => ?_)
  refine pl_aload (pc' := 611) 2 d_law_610 rfl rfl rfl ?_
  refine pl_callM (pc' := 614) (q := (r, τ')) (k_X12_reached l wm F  τ _ e2) rfl ml_X12_reached vl_X12_reached rfl rfl (Nat.le_of_ble_eq_true rfl) (Nat.le_of_ble_eq_true rfl) hce hsl d_law_611 rfl ?_
  refine pl_eqT (tgt := 665) d_law_614 (by decide) ?_
  exact kk w' σ' τ' hw' (sim_mon2 e3 (by omega))
theorem law_c19 (hF : 10000 + bnd 40 ≤ F) (hce : ce ≤ 600000) (hsl : sl ≤ 7302250) (hw : w.2.2.2 = true) (hq : q < 2147400000) (h : Sim σ τ q) (h1 : inb (i + 1) Lq = true) (kk : ∀ w' σ' τ', (w' = w ∨ w' = swW w) → Sim σ' τ' (q + 3000) → PL l b Lq xs ce sl w' wm 665 (L4 b (w.2.2.1 0) (wm.2.2.1 0) i) [] σ' τ') : PL l b Lq xs ce sl w wm 619 (L4 b (w.2.2.1 0) (wm.2.2.1 0) i) [] σ τ := by
  obtain ⟨r, σ', τ', e1, e2, e3⟩ := op_print h hF (xs (ix (i + 1)))
  refine pl_aload (pc' := 620) 1 d_law_619 rfl rfl rfl ?_
  refine pl_aload (pc' := 621) 0 d_law_620 rfl rfl rfl ?_
  refine pl_iload (pc' := 622) 3 d_law_621 rfl rfl rfl ?_
  refine pl_iconst (pc' := 623) (v := 1) d_law_622 rfl rfl ?_
  refine pl_iadd (pc' := 624) d_law_623 rfl ?_
  refine pl_sld (pc' := 625) h1 d_law_624 rfl ?_
  refine pl_callC (pc' := 628) (q := (r, σ')) (k_X11_print l w F _ σ _ e1) (fun _ _ _ _ h => Or.inl h) rfl ml_X11_print vl_X11_print rfl rfl (Nat.le_of_ble_eq_true rfl) (Nat.le_of_ble_eq_true rfl) hce hsl d_law_625 rfl (fun w' hw' => ?_)
  refine pl_aload (pc' := 629) 2 d_law_628 rfl rfl rfl ?_
  refine pl_aload (pc' := 630) 0 d_law_629 rfl rfl rfl ?_
  refine pl_iload (pc' := 631) 3 d_law_630 rfl rfl rfl ?_
  refine pl_iconst (pc' := 632) (v := 1) d_law_631 rfl rfl ?_
  refine pl_iadd (pc' := 633) d_law_632 rfl ?_
  refine pl_sld (pc' := 634) h1 d_law_633 rfl ?_
  refine pl_callM (pc' := 637) (q := (r, τ')) (k_X12_print l wm F _ τ _ e2) rfl ml_X12_print vl_X12_print rfl rfl (Nat.le_of_ble_eq_true rfl) (Nat.le_of_ble_eq_true rfl) hce hsl d_law_634 rfl ?_
  refine pl_eqT (tgt := 665) d_law_637 (by decide) ?_
  exact kk w' σ' τ' hw' (sim_mon2 e3 (by omega))
theorem law_c20 (hF : 10000 + bnd 40 ≤ F) (hce : ce ≤ 600000) (hsl : sl ≤ 7302250) (hw : w.2.2.2 = true) (hq : q < 2147400000) (h : Sim σ τ q) (h1 : inb (i + 1) Lq = true) (kk : ∀ w' σ' τ', (w' = w ∨ w' = swW w) → Sim σ' τ' (q + 3000) → PL l b Lq xs ce sl w' wm 665 (L4 b (w.2.2.1 0) (wm.2.2.1 0) i) [] σ' τ') : PL l b Lq xs ce sl w wm 642 (L4 b (w.2.2.1 0) (wm.2.2.1 0) i) [] σ τ := by
  obtain ⟨r, σ', τ', e1, e2, e3⟩ := op_out h (xs (ix (i + 1)))
  obtain ⟨v1, u1, u2⟩ := Option.map_eq_some_iff.mp e1
  obtain ⟨v2, u3, u4⟩ := Option.map_eq_some_iff.mp e2
  cases u2; cases u4
  refine pl_aload (pc' := 643) 1 d_law_642 rfl rfl rfl ?_
  refine pl_aload (pc' := 644) 0 d_law_643 rfl rfl rfl ?_
  refine pl_iload (pc' := 645) 3 d_law_644 rfl rfl rfl ?_
  refine pl_iconst (pc' := 646) (v := 1) d_law_645 rfl rfl ?_
  refine pl_iadd (pc' := 647) d_law_646 rfl ?_
  refine pl_sld (pc' := 648) h1 d_law_647 rfl ?_
  refine pl_callC (pc' := 651) (q := (r, σ)) (k_X11_out l w _ σ r u1) (fun _ _ _ _ h => Or.inl h) rfl ml_X11_out vl_X11_out rfl rfl (Nat.le_of_ble_eq_true rfl) (Nat.le_of_ble_eq_true rfl) hce hsl d_law_648 rfl (fun w' hw' => ?_)
  refine pl_aload (pc' := 652) 2 d_law_651 rfl rfl rfl ?_
  refine pl_aload (pc' := 653) 0 d_law_652 rfl rfl rfl ?_
  refine pl_iload (pc' := 654) 3 d_law_653 rfl rfl rfl ?_
  refine pl_iconst (pc' := 655) (v := 1) d_law_654 rfl rfl ?_
  refine pl_iadd (pc' := 656) d_law_655 rfl ?_
  refine pl_sld (pc' := 657) h1 d_law_656 rfl ?_
  refine pl_callM (pc' := 660) (q := (r, τ)) (k_X12_out l wm _ τ r u3) rfl ml_X12_out vl_X12_out rfl rfl (Nat.le_of_ble_eq_true rfl) (Nat.le_of_ble_eq_true rfl) hce hsl d_law_657 rfl ?_
  refine pl_eqT (tgt := 665) d_law_660 (by decide) ?_
  exact kk w' σ τ hw' (sim_mon2 e3 (by omega))
end LC
