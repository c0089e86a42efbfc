def jL_law_200 (L : Nat) (xs : Nat → Int32) (a1 : Nat) (a2 : Nat) (x3 : Int32) (h : Hp) (K18 : Int32 → Hp → Prop) (Q : Int32 → Prop) : Prop :=
  vp_in (x3 + (1 : Int32)) L ∧ (wX11_gate a1 (xs (x3 + (1 : Int32)).toNatClampNeg) h (fun v2 h3 => vp_in (x3 + (1 : Int32)) L ∧ (wX12_gate a2 (xs (x3 + (1 : Int32)).toNatClampNeg) h3 (fun v5 h6 => if v2 = v5 then (∀ v7 : Int32, v7 = x3 + (6 : Int32) → (K18 v7 h6)) else (Q (0 : Int32))))))
set_option maxRecDepth 20000 in
theorem tL_law_200 {G : GG} {X : XX} {kc ks b L : Nat} {xs : Nat → Int32} {a1 : Nat} {a2 : Nat} {x3 : Int32} {h : Hp}  {K18 : Int32 → Hp → Prop} {Q : Int32 → Prop} (C : Cx G RL cL_law 4 ret 1312 kc ks X) (hL : Lx G kc ks b L xs X) (hQ : ∀ v, Q v → v = 1) (k1 : kd a1 = 11) (k2 : kd a2 = 12) (hK18 : ∀ (y3 : Int32) (h' : Hp), K18 y3 h' → R0 G X kc ks (lw_Z X.2.2.2.2.2.2.2.1 #[Value.ref b] X.2.2.2.2.1) 18 [some (.ref b), some (.ref (G.1 a1)), some (.ref (G.1 a2)), some (.int y3)] [] h') (hw : jL_law_200 L xs a1 a2 x3 h K18 Q) : R0 G X kc ks (lw_Z X.2.2.2.2.2.2.2.1 #[Value.ref b] X.2.2.2.2.1) 200 [some (.ref b), some (.ref (G.1 a1)), some (.ref (G.1 a2)), some (.int x3)] [] h := by
  unfold jL_law_200 at hw
  refine r_aload_n C dL_law_200 rfl ?_
  refine r_aload_n C dL_law_201 rfl ?_
  refine r_iload_n C dL_law_202 rfl ?_
  refine r_iconst (1) C dL_law_203 (by decide) ?_
  refine r_iadd C dL_law_204 ?_
  obtain ⟨hi1, hw⟩ := hw
  refine r_sld C hL hi1 dL_law_205 ?_
  refine kL_13 C (k1) (sX11_gate (k1) hw) dL_law_206 (Nat.le_of_ble_eq_true rfl) rfl (Nat.le_of_ble_eq_true rfl) (fun v2 h3 hw => ?_)
  refine r_aload_n C dL_law_209 rfl ?_
  refine r_aload_n C dL_law_210 rfl ?_
  refine r_iload_n C dL_law_211 rfl ?_
  refine r_iconst (1) C dL_law_212 (by decide) ?_
  refine r_iadd C dL_law_213 ?_
  obtain ⟨hi4, hw⟩ := hw
  refine r_sld C hL hi4 dL_law_214 ?_
  refine kL_17 C (k2) (sX12_gate (k2) hw) dL_law_215 (Nat.le_of_ble_eq_true rfl) rfl (Nat.le_of_ble_eq_true rfl) (fun v5 h6 hw => ?_)
  refine r_icmp_eq 1427 C dL_law_218 (by decide) (fun hc => ?_) (fun hc => ?_)
  · replace hw := it_t hc hw
    obtain ⟨v7, ev7⟩ : ∃ v : Int32, v = x3 + (6 : Int32) := ⟨_, rfl⟩
    replace hw := hw v7 ev7
    refine r_iinc v7 [some (.ref b), some (.ref (G.1 a1)), some (.ref (G.1 a2)), some (.int v7)] C dL_law_1427 rfl (by rw [ev7]; rfl) rfl rfl ?_
    refine r_goto 18 C dL_law_1430 (by decide) ?_
    exact hK18 _ _ hw
  · replace hw := it_f hc hw
    refine r_iconst (0) C dL_law_221 (by decide) ?_
    exact r_lawret C hL dL_law_222 (hQ _ hw)
def jL_law_223 (L : Nat) (xs : Nat → Int32) (a1 : Nat) (a2 : Nat) (x3 : Int32) (h : Hp) (K18 : Int32 → Hp → Prop) (Q : Int32 → Prop) : Prop :=
  vp_in (x3 + (1 : Int32)) L ∧ (vp_in (x3 + (2 : Int32)) L ∧ (wX11_person a1 (xs (x3 + (1 : Int32)).toNatClampNeg) (xs (x3 + (2 : Int32)).toNatClampNeg) h (fun v3 h4 => vp_in (x3 + (1 : Int32)) L ∧ (vp_in (x3 + (2 : Int32)) L ∧ (wX12_person a2 (xs (x3 + (1 : Int32)).toNatClampNeg) (xs (x3 + (2 : Int32)).toNatClampNeg) h4 (fun v7 h8 => if v3 = v7 then (∀ v9 : Int32, v9 = x3 + (6 : Int32) → (K18 v9 h8)) else (Q (0 : Int32))))))))
set_option maxRecDepth 20000 in
theorem tL_law_223 {G : GG} {X : XX} {kc ks b L : Nat} {xs : Nat → Int32} {a1 : Nat} {a2 : Nat} {x3 : Int32} {h : Hp}  {K18 : Int32 → Hp → Prop} {Q : Int32 → Prop} (C : Cx G RL cL_law 4 ret 1312 kc ks X) (hL : Lx G kc ks b L xs X) (hQ : ∀ v, Q v → v = 1) (k1 : kd a1 = 11) (k2 : kd a2 = 12) (hK18 : ∀ (y3 : Int32) (h' : Hp), K18 y3 h' → R0 G X kc ks (lw_Z X.2.2.2.2.2.2.2.1 #[Value.ref b] X.2.2.2.2.1) 18 [some (.ref b), some (.ref (G.1 a1)), some (.ref (G.1 a2)), some (.int y3)] [] h') (hw : jL_law_223 L xs a1 a2 x3 h K18 Q) : R0 G X kc ks (lw_Z X.2.2.2.2.2.2.2.1 #[Value.ref b] X.2.2.2.2.1) 223 [some (.ref b), some (.ref (G.1 a1)), some (.ref (G.1 a2)), some (.int x3)] [] h := by
  unfold jL_law_223 at hw
  refine r_aload_n C dL_law_223 rfl ?_
  refine r_aload_n C dL_law_224 rfl ?_
  refine r_iload_n C dL_law_225 rfl ?_
  refine r_iconst (1) C dL_law_226 (by decide) ?_
  refine r_iadd C dL_law_227 ?_
  obtain ⟨hi1, hw⟩ := hw
  refine r_sld C hL hi1 dL_law_228 ?_
  refine r_aload_n C dL_law_229 rfl ?_
  refine r_iload_n C dL_law_230 rfl ?_
  refine r_iconst (2) C dL_law_231 (by decide) ?_
  refine r_iadd C dL_law_232 ?_
  obtain ⟨hi2, hw⟩ := hw
  refine r_sld C hL hi2 dL_law_233 ?_
  refine kL_18 C (k1) (sX11_person (k1) hw) dL_law_234 (Nat.le_of_ble_eq_true rfl) rfl (Nat.le_of_ble_eq_true rfl) (fun v3 h4 hw => ?_)
  refine r_aload_n C dL_law_237 rfl ?_
  refine r_aload_n C dL_law_238 rfl ?_
  refine r_iload_n C dL_law_239 rfl ?_
  refine r_iconst (1) C dL_law_240 (by decide) ?_
  refine r_iadd C dL_law_241 ?_
  obtain ⟨hi5, hw⟩ := hw
  refine r_sld C hL hi5 dL_law_242 ?_
  refine r_aload_n C dL_law_243 rfl ?_
  refine r_iload_n C dL_law_244 rfl ?_
  refine r_iconst (2) C dL_law_245 (by decide) ?_
  refine r_iadd C dL_law_246 ?_
  obtain ⟨hi6, hw⟩ := hw
  refine r_sld C hL hi6 dL_law_247 ?_
  refine kL_22 C (k2) (sX12_person (k2) hw) dL_law_248 (Nat.le_of_ble_eq_true rfl) rfl (Nat.le_of_ble_eq_true rfl) (fun v7 h8 hw => ?_)
  refine r_icmp_eq 1427 C dL_law_251 (by decide) (fun hc => ?_) (fun hc => ?_)
  · replace hw := it_t hc hw
    obtain ⟨v9, ev9⟩ : ∃ v : Int32, v = x3 + (6 : Int32) := ⟨_, rfl⟩
    replace hw := hw v9 ev9
    refine r_iinc v9 [some (.ref b), some (.ref (G.1 a1)), some (.ref (G.1 a2)), some (.int v9)] C dL_law_1427 rfl (by rw [ev9]; rfl) rfl rfl ?_
    refine r_goto 18 C dL_law_1430 (by decide) ?_
    exact hK18 _ _ hw
  · replace hw := it_f hc hw
    refine r_iconst (0) C dL_law_254 (by decide) ?_
    exact r_lawret C hL dL_law_255 (hQ _ hw)
def jL_law_256 (L : Nat) (xs : Nat → Int32) (a1 : Nat) (a2 : Nat) (x3 : Int32) (h : Hp) (K18 : Int32 → Hp → Prop) (Q : Int32 → Prop) : Prop :=
  vp_in (x3 + (1 : Int32)) L ∧ (vp_in (x3 + (2 : Int32)) L ∧ (vp_in (x3 + (3 : Int32)) L ∧ (wX11_people a1 (xs (x3 + (1 : Int32)).toNatClampNeg) (xs (x3 + (2 : Int32)).toNatClampNeg) (xs (x3 + (3 : Int32)).toNatClampNeg) h (fun v4 h5 => vp_in (x3 + (1 : Int32)) L ∧ (vp_in (x3 + (2 : Int32)) L ∧ (vp_in (x3 + (3 : Int32)) L ∧ (wX12_people a2 (xs (x3 + (1 : Int32)).toNatClampNeg) (xs (x3 + (2 : Int32)).toNatClampNeg) (xs (x3 + (3 : Int32)).toNatClampNeg) h5 (fun v9 h10 => if v4 = v9 then (∀ v11 : Int32, v11 = x3 + (6 : Int32) → (K18 v11 h10)) else (Q (0 : Int32))))))))))
set_option maxRecDepth 20000 in
theorem tL_law_256 {G : GG} {X : XX} {kc ks b L : Nat} {xs : Nat → Int32} {a1 : Nat} {a2 : Nat} {x3 : Int32} {h : Hp}  {K18 : Int32 → Hp → Prop} {Q : Int32 → Prop} (C : Cx G RL cL_law 4 ret 1312 kc ks X) (hL : Lx G kc ks b L xs X) (hQ : ∀ v, Q v → v = 1) (k1 : kd a1 = 11) (k2 : kd a2 = 12) (hK18 : ∀ (y3 : Int32) (h' : Hp), K18 y3 h' → R0 G X kc ks (lw_Z X.2.2.2.2.2.2.2.1 #[Value.ref b] X.2.2.2.2.1) 18 [some (.ref b), some (.ref (G.1 a1)), some (.ref (G.1 a2)), some (.int y3)] [] h') (hw : jL_law_256 L xs a1 a2 x3 h K18 Q) : R0 G X kc ks (lw_Z X.2.2.2.2.2.2.2.1 #[Value.ref b] X.2.2.2.2.1) 256 [some (.ref b), some (.ref (G.1 a1)), some (.ref (G.1 a2)), some (.int x3)] [] h := by
  unfold jL_law_256 at hw
  refine r_aload_n C dL_law_256 rfl ?_
  refine r_aload_n C dL_law_257 rfl ?_
  refine r_iload_n C dL_law_258 rfl ?_
  refine r_iconst (1) C dL_law_259 (by decide) ?_
  refine r_iadd C dL_law_260 ?_
  obtain ⟨hi1, hw⟩ := hw
  refine r_sld C hL hi1 dL_law_261 ?_
  refine r_aload_n C dL_law_262 rfl ?_
  refine r_iload_n C dL_law_263 rfl ?_
  refine r_iconst (2) C dL_law_264 (by decide) ?_
  refine r_iadd C dL_law_265 ?_
  obtain ⟨hi2, hw⟩ := hw
  refine r_sld C hL hi2 dL_law_266 ?_
  refine r_aload_n C dL_law_267 rfl ?_
  refine r_iload_n C dL_law_268 rfl ?_
  refine r_iconst (3) C dL_law_269 (by decide) ?_
  refine r_iadd C dL_law_270 ?_
  obtain ⟨hi3, hw⟩ := hw
  refine r_sld C hL hi3 dL_law_271 ?_
  refine kL_23 C (k1) (sX11_people (k1) hw) dL_law_272 (Nat.le_of_ble_eq_true rfl) rfl (Nat.le_of_ble_eq_true rfl) (fun v4 h5 hw => ?_)
  refine r_aload_n C dL_law_275 rfl ?_
  refine r_aload_n C dL_law_276 rfl ?_
  refine r_iload_n C dL_law_277 rfl ?_
  refine r_iconst (1) C dL_law_278 (by decide) ?_
  refine r_iadd C dL_law_279 ?_
  obtain ⟨hi6, hw⟩ := hw
  refine r_sld C hL hi6 dL_law_280 ?_
  refine r_aload_n C dL_law_281 rfl ?_
  refine r_iload_n C dL_law_282 rfl ?_
  refine r_iconst (2) C dL_law_283 (by decide) ?_
  refine r_iadd C dL_law_284 ?_
  obtain ⟨hi7, hw⟩ := hw
  refine r_sld C hL hi7 dL_law_285 ?_
  refine r_aload_n C dL_law_286 rfl ?_
  refine r_iload_n C dL_law_287 rfl ?_
  refine r_iconst (3) C dL_law_288 (by decide) ?_
  refine r_iadd C dL_law_289 ?_
  obtain ⟨hi8, hw⟩ := hw
  refine r_sld C hL hi8 dL_law_290 ?_
  refine kL_27 C (k2) (sX12_people (k2) hw) dL_law_291 (Nat.le_of_ble_eq_true rfl) rfl (Nat.le_of_ble_eq_true rfl) (fun v9 h10 hw => ?_)
  refine r_icmp_eq 1427 C dL_law_294 (by decide) (fun hc => ?_) (fun hc => ?_)
  · replace hw := it_t hc hw
    obtain ⟨v11, ev11⟩ : ∃ v : Int32, v = x3 + (6 : Int32) := ⟨_, rfl⟩
    replace hw := hw v11 ev11
    refine r_iinc v11 [some (.ref b), some (.ref (G.1 a1)), some (.ref (G.1 a2)), some (.int v11)] C dL_law_1427 rfl (by rw [ev11]; rfl) rfl rfl ?_
    refine r_goto 18 C dL_law_1430 (by decide) ?_
    exact hK18 _ _ hw
  · replace hw := it_f hc hw
    refine r_iconst (0) C dL_law_297 (by decide) ?_
    exact r_lawret C hL dL_law_298 (hQ _ hw)
def jL_law_299 (L : Nat) (xs : Nat → Int32) (a1 : Nat) (a2 : Nat) (x3 : Int32) (h : Hp) (K18 : Int32 → Hp → Prop) (Q : Int32 → Prop) : Prop :=
  vp_in (x3 + (1 : Int32)) L ∧ (vp_in (x3 + (2 : Int32)) L ∧ (vp_in (x3 + (3 : Int32)) L ∧ (wX11_mend a1 (xs (x3 + (1 : Int32)).toNatClampNeg) (xs (x3 + (2 : Int32)).toNatClampNeg) (xs (x3 + (3 : Int32)).toNatClampNeg) h (fun v4 h5 => vp_in (x3 + (1 : Int32)) L ∧ (vp_in (x3 + (2 : Int32)) L ∧ (vp_in (x3 + (3 : Int32)) L ∧ (wX12_mend a2 (xs (x3 + (1 : Int32)).toNatClampNeg) (xs (x3 + (2 : Int32)).toNatClampNeg) (xs (x3 + (3 : Int32)).toNatClampNeg) h5 (fun v9 h10 => if v4 = v9 then (∀ v11 : Int32, v11 = x3 + (6 : Int32) → (K18 v11 h10)) else (Q (0 : Int32))))))))))
set_option maxRecDepth 20000 in
theorem tL_law_299 {G : GG} {X : XX} {kc ks b L : Nat} {xs : Nat → Int32} {a1 : Nat} {a2 : Nat} {x3 : Int32} {h : Hp}  {K18 : Int32 → Hp → Prop} {Q : Int32 → Prop} (C : Cx G RL cL_law 4 ret 1312 kc ks X) (hL : Lx G kc ks b L xs X) (hQ : ∀ v, Q v → v = 1) (k1 : kd a1 = 11) (k2 : kd a2 = 12) (hK18 : ∀ (y3 : Int32) (h' : Hp), K18 y3 h' → R0 G X kc ks (lw_Z X.2.2.2.2.2.2.2.1 #[Value.ref b] X.2.2.2.2.1) 18 [some (.ref b), some (.ref (G.1 a1)), some (.ref (G.1 a2)), some (.int y3)] [] h') (hw : jL_law_299 L xs a1 a2 x3 h K18 Q) : R0 G X kc ks (lw_Z X.2.2.2.2.2.2.2.1 #[Value.ref b] X.2.2.2.2.1) 299 [some (.ref b), some (.ref (G.1 a1)), some (.ref (G.1 a2)), some (.int x3)] [] h := by
  unfold jL_law_299 at hw
  refine r_aload_n C dL_law_299 rfl ?_
  refine r_aload_n C dL_law_300 rfl ?_
  refine r_iload_n C dL_law_301 rfl ?_
  refine r_iconst (1) C dL_law_302 (by decide) ?_
  refine r_iadd C dL_law_303 ?_
  obtain ⟨hi1, hw⟩ := hw
  refine r_sld C hL hi1 dL_law_304 ?_
  refine r_aload_n C dL_law_305 rfl ?_
  refine r_iload_n C dL_law_306 rfl ?_
  refine r_iconst (2) C dL_law_307 (by decide) ?_
  refine r_iadd C dL_law_308 ?_
  obtain ⟨hi2, hw⟩ := hw
  refine r_sld C hL hi2 dL_law_309 ?_
  refine r_aload_n C dL_law_310 rfl ?_
  refine r_iload_n C dL_law_311 rfl ?_
  refine r_iconst (3) C dL_law_312 (by decide) ?_
  refine r_iadd C dL_law_313 ?_
  obtain ⟨hi3, hw⟩ := hw
  refine r_sld C hL hi3 dL_law_314 ?_
  refine kL_28 C (k1) (sX11_mend (k1) hw) dL_law_315 (Nat.le_of_ble_eq_true rfl) rfl (Nat.le_of_ble_eq_true rfl) (fun v4 h5 hw => ?_)
  refine r_aload_n C dL_law_318 rfl ?_
  refine r_aload_n C dL_law_319 rfl ?_
  refine r_iload_n C dL_law_320 rfl ?_
  refine r_iconst (1) C dL_law_321 (by decide) ?_
  refine r_iadd C dL_law_322 ?_
  obtain ⟨hi6, hw⟩ := hw
  refine r_sld C hL hi6 dL_law_323 ?_
  refine r_aload_n C dL_law_324 rfl ?_
  refine r_iload_n C dL_law_325 rfl ?_
  refine r_iconst (2) C dL_law_326 (by decide) ?_
  refine r_iadd C dL_law_327 ?_
  obtain ⟨hi7, hw⟩ := hw
  refine r_sld C hL hi7 dL_law_328 ?_
  refine r_aload_n C dL_law_329 rfl ?_
  refine r_iload_n C dL_law_330 rfl ?_
  refine r_iconst (3) C dL_law_331 (by decide) ?_
  refine r_iadd C dL_law_332 ?_
  obtain ⟨hi8, hw⟩ := hw
  refine r_sld C hL hi8 dL_law_333 ?_
  refine kL_31 C (k2) (sX12_mend (k2) hw) dL_law_334 (Nat.le_of_ble_eq_true rfl) rfl (Nat.le_of_ble_eq_true rfl) (fun v9 h10 hw => ?_)
  refine r_icmp_eq 1427 C dL_law_337 (by decide) (fun hc => ?_) (fun hc => ?_)
  · replace hw := it_t hc hw
    obtain ⟨v11, ev11⟩ : ∃ v : Int32, v = x3 + (6 : Int32) := ⟨_, rfl⟩
    replace hw := hw v11 ev11
    refine r_iinc v11 [some (.ref b), some (.ref (G.1 a1)), some (.ref (G.1 a2)), some (.int v11)] C dL_law_1427 rfl (by rw [ev11]; rfl) rfl rfl ?_
    refine r_goto 18 C dL_law_1430 (by decide) ?_
    exact hK18 _ _ hw
  · replace hw := it_f hc hw
    refine r_iconst (0) C dL_law_340 (by decide) ?_
    exact r_lawret C hL dL_law_341 (hQ _ hw)
def jL_law_342 (L : Nat) (xs : Nat → Int32) (a1 : Nat) (a2 : Nat) (x3 : Int32) (h : Hp) (K18 : Int32 → Hp → Prop) (Q : Int32 → Prop) : Prop :=
  vp_in (x3 + (1 : Int32)) L ∧ (vp_in (x3 + (2 : Int32)) L ∧ (wX11_of a1 (xs (x3 + (1 : Int32)).toNatClampNeg) (xs (x3 + (2 : Int32)).toNatClampNeg) h (fun v3 => vp_in (x3 + (1 : Int32)) L ∧ (vp_in (x3 + (2 : Int32)) L ∧ (wX12_of a2 (xs (x3 + (1 : Int32)).toNatClampNeg) (xs (x3 + (2 : Int32)).toNatClampNeg) h (fun v6 => if v3 = v6 then (∀ v7 : Int32, v7 = x3 + (6 : Int32) → (K18 v7 h)) else (Q (0 : Int32))))))))
set_option maxRecDepth 20000 in
theorem tL_law_342 {G : GG} {X : XX} {kc ks b L : Nat} {xs : Nat → Int32} {a1 : Nat} {a2 : Nat} {x3 : Int32} {h : Hp}  {K18 : Int32 → Hp → Prop} {Q : Int32 → Prop} (C : Cx G RL cL_law 4 ret 1312 kc ks X) (hL : Lx G kc ks b L xs X) (hQ : ∀ v, Q v → v = 1) (k1 : kd a1 = 11) (k2 : kd a2 = 12) (hK18 : ∀ (y3 : Int32) (h' : Hp), K18 y3 h' → R0 G X kc ks (lw_Z X.2.2.2.2.2.2.2.1 #[Value.ref b] X.2.2.2.2.1) 18 [some (.ref b), some (.ref (G.1 a1)), some (.ref (G.1 a2)), some (.int y3)] [] h') (hw : jL_law_342 L xs a1 a2 x3 h K18 Q) : R0 G X kc ks (lw_Z X.2.2.2.2.2.2.2.1 #[Value.ref b] X.2.2.2.2.1) 342 [some (.ref b), some (.ref (G.1 a1)), some (.ref (G.1 a2)), some (.int x3)] [] h := by
  unfold jL_law_342 at hw
  refine r_aload_n C dL_law_342 rfl ?_
  refine r_aload_n C dL_law_343 rfl ?_
  refine r_iload_n C dL_law_344 rfl ?_
  refine r_iconst (1) C dL_law_345 (by decide) ?_
  refine r_iadd C dL_law_346 ?_
  obtain ⟨hi1, hw⟩ := hw
  refine r_sld C hL hi1 dL_law_347 ?_
  refine r_aload_n C dL_law_348 rfl ?_
  refine r_iload_n C dL_law_349 rfl ?_
  refine r_iconst (2) C dL_law_350 (by decide) ?_
  refine r_iadd C dL_law_351 ?_
  obtain ⟨hi2, hw⟩ := hw
  refine r_sld C hL hi2 dL_law_352 ?_
  refine kL_32 C (k1) (sX11_of (k1) hw) dL_law_353 (Nat.le_of_ble_eq_true rfl) rfl (Nat.le_of_ble_eq_true rfl) (fun v3 hw => ?_)
  refine r_aload_n C dL_law_356 rfl ?_
  refine r_aload_n C dL_law_357 rfl ?_
  refine r_iload_n C dL_law_358 rfl ?_
  refine r_iconst (1) C dL_law_359 (by decide) ?_
  refine r_iadd C dL_law_360 ?_
  obtain ⟨hi4, hw⟩ := hw
  refine r_sld C hL hi4 dL_law_361 ?_
  refine r_aload_n C dL_law_362 rfl ?_
  refine r_iload_n C dL_law_363 rfl ?_
  refine r_iconst (2) C dL_law_364 (by decide) ?_
  refine r_iadd C dL_law_365 ?_
  obtain ⟨hi5, hw⟩ := hw
  refine r_sld C hL hi5 dL_law_366 ?_
  refine kL_35 C (k2) (sX12_of (k2) hw) dL_law_367 (Nat.le_of_ble_eq_true rfl) rfl (Nat.le_of_ble_eq_true rfl) (fun v6 hw => ?_)
  refine r_icmp_eq 1427 C dL_law_370 (by decide) (fun hc => ?_) (fun hc => ?_)
  · replace hw := it_t hc hw
    obtain ⟨v7, ev7⟩ : ∃ v : Int32, v = x3 + (6 : Int32) := ⟨_, rfl⟩
    replace hw := hw v7 ev7
    refine r_iinc v7 [some (.ref b), some (.ref (G.1 a1)), some (.ref (G.1 a2)), some (.int v7)] C dL_law_1427 rfl (by rw [ev7]; rfl) rfl rfl ?_
    refine r_goto 18 C dL_law_1430 (by decide) ?_
    exact hK18 _ _ hw
  · replace hw := it_f hc hw
    refine r_iconst (0) C dL_law_373 (by decide) ?_
    exact r_lawret C hL dL_law_374 (hQ _ hw)
def jL_law_375 (L : Nat) (xs : Nat → Int32) (a1 : Nat) (a2 : Nat) (x3 : Int32) (h : Hp) (K18 : Int32 → Hp → Prop) (Q : Int32 → Prop) : Prop :=
  vp_in (x3 + (1 : Int32)) L ∧ (wX11_feed a1 (xs (x3 + (1 : Int32)).toNatClampNeg) h (fun v2 h3 => vp_in (x3 + (1 : Int32)) L ∧ (wX12_feed a2 (xs (x3 + (1 : Int32)).toNatClampNeg) h3 (fun v5 h6 => if v2 = v5 then (∀ v7 : Int32, v7 = x3 + (6 : Int32) → (K18 v7 h6)) else (Q (0 : Int32))))))
set_option maxRecDepth 20000 in
theorem tL_law_375 {G : GG} {X : XX} {kc ks b L : Nat} {xs : Nat → Int32} {a1 : Nat} {a2 : Nat} {x3 : Int32} {h : Hp}  {K18 : Int32 → Hp → Prop} {Q : Int32 → Prop} (C : Cx G RL cL_law 4 ret 1312 kc ks X) (hL : Lx G kc ks b L xs X) (hQ : ∀ v, Q v → v = 1) (k1 : kd a1 = 11) (k2 : kd a2 = 12) (hK18 : ∀ (y3 : Int32) (h' : Hp), K18 y3 h' → R0 G X kc ks (lw_Z X.2.2.2.2.2.2.2.1 #[Value.ref b] X.2.2.2.2.1) 18 [some (.ref b), some (.ref (G.1 a1)), some (.ref (G.1 a2)), some (.int y3)] [] h') (hw : jL_law_375 L xs a1 a2 x3 h K18 Q) : R0 G X kc ks (lw_Z X.2.2.2.2.2.2.2.1 #[Value.ref b] X.2.2.2.2.1) 375 [some (.ref b), some (.ref (G.1 a1)), some (.ref (G.1 a2)), some (.int x3)] [] h := by
  unfold jL_law_375 at hw
  refine r_aload_n C dL_law_375 rfl ?_
  refine r_aload_n C dL_law_376 rfl ?_
  refine r_iload_n C dL_law_377 rfl ?_
  refine r_iconst (1) C dL_law_378 (by decide) ?_
  refine r_iadd C dL_law_379 ?_
  obtain ⟨hi1, hw⟩ := hw
  refine r_sld C hL hi1 dL_law_380 ?_
  refine kL_36 C (k1) (sX11_feed (k1) hw) dL_law_381 (Nat.le_of_ble_eq_true rfl) rfl (Nat.le_of_ble_eq_true rfl) (fun v2 h3 hw => ?_)
  refine r_aload_n C dL_law_384 rfl ?_
  refine r_aload_n C dL_law_385 rfl ?_
  refine r_iload_n C dL_law_386 rfl ?_
  refine r_iconst (1) C dL_law_387 (by decide) ?_
  refine r_iadd C dL_law_388 ?_
  obtain ⟨hi4, hw⟩ := hw
  refine r_sld C hL hi4 dL_law_389 ?_
  refine kL_39 C (k2) (sX12_feed (k2) hw) dL_law_390 (Nat.le_of_ble_eq_true rfl) rfl (Nat.le_of_ble_eq_true rfl) (fun v5 h6 hw => ?_)
  refine r_icmp_eq 1427 C dL_law_393 (by decide) (fun hc => ?_) (fun hc => ?_)
  · replace hw := it_t hc hw
    obtain ⟨v7, ev7⟩ : ∃ v : Int32, v = x3 + (6 : Int32) := ⟨_, rfl⟩
    replace hw := hw v7 ev7
    refine r_iinc v7 [some (.ref b), some (.ref (G.1 a1)), some (.ref (G.1 a2)), some (.int v7)] C dL_law_1427 rfl (by rw [ev7]; rfl) rfl rfl ?_
    refine r_goto 18 C dL_law_1430 (by decide) ?_
    exact hK18 _ _ hw
  · replace hw := it_f hc hw
    refine r_iconst (0) C dL_law_396 (by decide) ?_
    exact r_lawret C hL dL_law_397 (hQ _ hw)
def jL_law_398 (L : Nat) (xs : Nat → Int32) (a1 : Nat) (a2 : Nat) (x3 : Int32) (h : Hp) (K18 : Int32 → Hp → Prop) (Q : Int32 → Prop) : Prop :=
  vp_in (x3 + (1 : Int32)) L ∧ (wX11_law a1 (xs (x3 + (1 : Int32)).toNatClampNeg) h (fun v2 h3 => vp_in (x3 + (1 : Int32)) L ∧ (wX12_law a2 (xs (x3 + (1 : Int32)).toNatClampNeg) h3 (fun v5 h6 => if v2 = v5 then (∀ v7 : Int32, v7 = x3 + (6 : Int32) → (K18 v7 h6)) else (Q (0 : Int32))))))
set_option maxRecDepth 20000 in
theorem tL_law_398 {G : GG} {X : XX} {kc ks b L : Nat} {xs : Nat → Int32} {a1 : Nat} {a2 : Nat} {x3 : Int32} {h : Hp}  {K18 : Int32 → Hp → Prop} {Q : Int32 → Prop} (C : Cx G RL cL_law 4 ret 1312 kc ks X) (hL : Lx G kc ks b L xs X) (hQ : ∀ v, Q v → v = 1) (k1 : kd a1 = 11) (k2 : kd a2 = 12) (hK18 : ∀ (y3 : Int32) (h' : Hp), K18 y3 h' → R0 G X kc ks (lw_Z X.2.2.2.2.2.2.2.1 #[Value.ref b] X.2.2.2.2.1) 18 [some (.ref b), some (.ref (G.1 a1)), some (.ref (G.1 a2)), some (.int y3)] [] h') (hw : jL_law_398 L xs a1 a2 x3 h K18 Q) : R0 G X kc ks (lw_Z X.2.2.2.2.2.2.2.1 #[Value.ref b] X.2.2.2.2.1) 398 [some (.ref b), some (.ref (G.1 a1)), some (.ref (G.1 a2)), some (.int x3)] [] h := by
  unfold jL_law_398 at hw
  refine r_aload_n C dL_law_398 rfl ?_
  refine r_aload_n C dL_law_399 rfl ?_
  refine r_iload_n C dL_law_400 rfl ?_
  refine r_iconst (1) C dL_law_401 (by decide) ?_
  refine r_iadd C dL_law_402 ?_
  obtain ⟨hi1, hw⟩ := hw
  refine r_sld C hL hi1 dL_law_403 ?_
  refine kL_40 C (k1) (sX11_law (k1) hw) dL_law_404 (Nat.le_of_ble_eq_true rfl) rfl (Nat.le_of_ble_eq_true rfl) (fun v2 h3 hw => ?_)
  refine r_aload_n C dL_law_407 rfl ?_
  refine r_aload_n C dL_law_408 rfl ?_
  refine r_iload_n C dL_law_409 rfl ?_
  refine r_iconst (1) C dL_law_410 (by decide) ?_
  refine r_iadd C dL_law_411 ?_
  obtain ⟨hi4, hw⟩ := hw
  refine r_sld C hL hi4 dL_law_412 ?_
  refine kL_43 C (k2) (sX12_law (k2) hw) dL_law_413 (Nat.le_of_ble_eq_true rfl) rfl (Nat.le_of_ble_eq_true rfl) (fun v5 h6 hw => ?_)
  refine r_icmp_eq 1427 C dL_law_416 (by decide) (fun hc => ?_) (fun hc => ?_)
  · replace hw := it_t hc hw
    obtain ⟨v7, ev7⟩ : ∃ v : Int32, v = x3 + (6 : Int32) := ⟨_, rfl⟩
    replace hw := hw v7 ev7
    refine r_iinc v7 [some (.ref b), some (.ref (G.1 a1)), some (.ref (G.1 a2)), some (.int v7)] C dL_law_1427 rfl (by rw [ev7]; rfl) rfl rfl ?_
    refine r_goto 18 C dL_law_1430 (by decide) ?_
    exact hK18 _ _ hw
  · replace hw := it_f hc hw
    refine r_iconst (0) C dL_law_419 (by decide) ?_
    exact r_lawret C hL dL_law_420 (hQ _ hw)
def jL_law_421 (L : Nat) (xs : Nat → Int32) (a1 : Nat) (a2 : Nat) (x3 : Int32) (h : Hp) (K18 : Int32 → Hp → Prop) (Q : Int32 → Prop) : Prop :=
  vp_in (x3 + (1 : Int32)) L ∧ (vp_in (x3 + (2 : Int32)) L ∧ (vp_in (x3 + (3 : Int32)) L ∧ (wX11_may a1 (xs (x3 + (1 : Int32)).toNatClampNeg) (xs (x3 + (2 : Int32)).toNatClampNeg) (xs (x3 + (3 : Int32)).toNatClampNeg) h (fun v4 h5 => vp_in (x3 + (1 : Int32)) L ∧ (vp_in (x3 + (2 : Int32)) L ∧ (vp_in (x3 + (3 : Int32)) L ∧ (wX12_may a2 (xs (x3 + (1 : Int32)).toNatClampNeg) (xs (x3 + (2 : Int32)).toNatClampNeg) (xs (x3 + (3 : Int32)).toNatClampNeg) h5 (fun v9 h10 => if v4 = v9 then (∀ v11 : Int32, v11 = x3 + (6 : Int32) → (K18 v11 h10)) else (Q (0 : Int32))))))))))
set_option maxRecDepth 20000 in
theorem tL_law_421 {G : GG} {X : XX} {kc ks b L : Nat} {xs : Nat → Int32} {a1 : Nat} {a2 : Nat} {x3 : Int32} {h : Hp}  {K18 : Int32 → Hp → Prop} {Q : Int32 → Prop} (C : Cx G RL cL_law 4 ret 1312 kc ks X) (hL : Lx G kc ks b L xs X) (hQ : ∀ v, Q v → v = 1) (k1 : kd a1 = 11) (k2 : kd a2 = 12) (hK18 : ∀ (y3 : Int32) (h' : Hp), K18 y3 h' → R0 G X kc ks (lw_Z X.2.2.2.2.2.2.2.1 #[Value.ref b] X.2.2.2.2.1) 18 [some (.ref b), some (.ref (G.1 a1)), some (.ref (G.1 a2)), some (.int y3)] [] h') (hw : jL_law_421 L xs a1 a2 x3 h K18 Q) : R0 G X kc ks (lw_Z X.2.2.2.2.2.2.2.1 #[Value.ref b] X.2.2.2.2.1) 421 [some (.ref b), some (.ref (G.1 a1)), some (.ref (G.1 a2)), some (.int x3)] [] h := by
  unfold jL_law_421 at hw
  refine r_aload_n C dL_law_421 rfl ?_
  refine r_aload_n C dL_law_422 rfl ?_
  refine r_iload_n C dL_law_423 rfl ?_
  refine r_iconst (1) C dL_law_424 (by decide) ?_
  refine r_iadd C dL_law_425 ?_
  obtain ⟨hi1, hw⟩ := hw
  refine r_sld C hL hi1 dL_law_426 ?_
  refine r_aload_n C dL_law_427 rfl ?_
  refine r_iload_n C dL_law_428 rfl ?_
  refine r_iconst (2) C dL_law_429 (by decide) ?_
  refine r_iadd C dL_law_430 ?_
  obtain ⟨hi2, hw⟩ := hw
  refine r_sld C hL hi2 dL_law_431 ?_
  refine r_aload_n C dL_law_432 rfl ?_
  refine r_iload_n C dL_law_433 rfl ?_
  refine r_iconst (3) C dL_law_434 (by decide) ?_
  refine r_iadd C dL_law_435 ?_
  obtain ⟨hi3, hw⟩ := hw
  refine r_sld C hL hi3 dL_law_436 ?_
  refine kL_44 C (k1) (sX11_may (k1) hw) dL_law_437 (Nat.le_of_ble_eq_true rfl) rfl (Nat.le_of_ble_eq_true rfl) (fun v4 h5 hw => ?_)
  refine r_aload_n C dL_law_440 rfl ?_
  refine r_aload_n C dL_law_441 rfl ?_
  refine r_iload_n C dL_law_442 rfl ?_
  refine r_iconst (1) C dL_law_443 (by decide) ?_
  refine r_iadd C dL_law_444 ?_
  obtain ⟨hi6, hw⟩ := hw
  refine r_sld C hL hi6 dL_law_445 ?_
  refine r_aload_n C dL_law_446 rfl ?_
  refine r_iload_n C dL_law_447 rfl ?_
  refine r_iconst (2) C dL_law_448 (by decide) ?_
  refine r_iadd C dL_law_449 ?_
  obtain ⟨hi7, hw⟩ := hw
  refine r_sld C hL hi7 dL_law_450 ?_
  refine r_aload_n C dL_law_451 rfl ?_
  refine r_iload_n C dL_law_452 rfl ?_
  refine r_iconst (3) C dL_law_453 (by decide) ?_
  refine r_iadd C dL_law_454 ?_
  obtain ⟨hi8, hw⟩ := hw
  refine r_sld C hL hi8 dL_law_455 ?_
  refine kL_47 C (k2) (sX12_may (k2) hw) dL_law_456 (Nat.le_of_ble_eq_true rfl) rfl (Nat.le_of_ble_eq_true rfl) (fun v9 h10 hw => ?_)
  refine r_icmp_eq 1427 C dL_law_459 (by decide) (fun hc => ?_) (fun hc => ?_)
  · replace hw := it_t hc hw
    obtain ⟨v11, ev11⟩ : ∃ v : Int32, v = x3 + (6 : Int32) := ⟨_, rfl⟩
    replace hw := hw v11 ev11
    refine r_iinc v11 [some (.ref b), some (.ref (G.1 a1)), some (.ref (G.1 a2)), some (.int v11)] C dL_law_1427 rfl (by rw [ev11]; rfl) rfl rfl ?_
    refine r_goto 18 C dL_law_1430 (by decide) ?_
    exact hK18 _ _ hw
  · replace hw := it_f hc hw
    refine r_iconst (0) C dL_law_462 (by decide) ?_
    exact r_lawret C hL dL_law_463 (hQ _ hw)
def jL_law_464 (L : Nat) (xs : Nat → Int32) (a1 : Nat) (a2 : Nat) (x3 : Int32) (h : Hp) (K18 : Int32 → Hp → Prop) (Q : Int32 → Prop) : Prop :=
  vp_in (x3 + (1 : Int32)) L ∧ (vp_in (x3 + (2 : Int32)) L ∧ (wX11_comes a1 (xs (x3 + (1 : Int32)).toNatClampNeg) (xs (x3 + (2 : Int32)).toNatClampNeg) h (fun v3 h4 => vp_in (x3 + (1 : Int32)) L ∧ (vp_in (x3 + (2 : Int32)) L ∧ (wX12_comes a2 (xs (x3 + (1 : Int32)).toNatClampNeg) (xs (x3 + (2 : Int32)).toNatClampNeg) h4 (fun v7 h8 => if v3 = v7 then (∀ v9 : Int32, v9 = x3 + (6 : Int32) → (K18 v9 h8)) else (Q (0 : Int32))))))))
set_option maxRecDepth 20000 in
theorem tL_law_464 {G : GG} {X : XX} {kc ks b L : Nat} {xs : Nat → Int32} {a1 : Nat} {a2 : Nat} {x3 : Int32} {h : Hp}  {K18 : Int32 → Hp → Prop} {Q : Int32 → Prop} (C : Cx G RL cL_law 4 ret 1312 kc ks X) (hL : Lx G kc ks b L xs X) (hQ : ∀ v, Q v → v = 1) (k1 : kd a1 = 11) (k2 : kd a2 = 12) (hK18 : ∀ (y3 : Int32) (h' : Hp), K18 y3 h' → R0 G X kc ks (lw_Z X.2.2.2.2.2.2.2.1 #[Value.ref b] X.2.2.2.2.1) 18 [some (.ref b), some (.ref (G.1 a1)), some (.ref (G.1 a2)), some (.int y3)] [] h') (hw : jL_law_464 L xs a1 a2 x3 h K18 Q) : R0 G X kc ks (lw_Z X.2.2.2.2.2.2.2.1 #[Value.ref b] X.2.2.2.2.1) 464 [some (.ref b), some (.ref (G.1 a1)), some (.ref (G.1 a2)), some (.int x3)] [] h := by
  unfold jL_law_464 at hw
  refine r_aload_n C dL_law_464 rfl ?_
  refine r_aload_n C dL_law_465 rfl ?_
  refine r_iload_n C dL_law_466 rfl ?_
  refine r_iconst (1) C dL_law_467 (by decide) ?_
  refine r_iadd C dL_law_468 ?_
  obtain ⟨hi1, hw⟩ := hw
  refine r_sld C hL hi1 dL_law_469 ?_
  refine r_aload_n C dL_law_470 rfl ?_
  refine r_iload_n C dL_law_471 rfl ?_
  refine r_iconst (2) C dL_law_472 (by decide) ?_
  refine r_iadd C dL_law_473 ?_
  obtain ⟨hi2, hw⟩ := hw
  refine r_sld C hL hi2 dL_law_474 ?_
  refine kL_48 C (k1) (sX11_comes (k1) hw) dL_law_475 (Nat.le_of_ble_eq_true rfl) rfl (Nat.le_of_ble_eq_true rfl) (fun v3 h4 hw => ?_)
  refine r_aload_n C dL_law_478 rfl ?_
  refine r_aload_n C dL_law_479 rfl ?_
  refine r_iload_n C dL_law_480 rfl ?_
  refine r_iconst (1) C dL_law_481 (by decide) ?_
  refine r_iadd C dL_law_482 ?_
  obtain ⟨hi5, hw⟩ := hw
  refine r_sld C hL hi5 dL_law_483 ?_
  refine r_aload_n C dL_law_484 rfl ?_
  refine r_iload_n C dL_law_485 rfl ?_
  refine r_iconst (2) C dL_law_486 (by decide) ?_
  refine r_iadd C dL_law_487 ?_
  obtain ⟨hi6, hw⟩ := hw
  refine r_sld C hL hi6 dL_law_488 ?_
  refine kL_51 C (k2) (sX12_comes (k2) hw) dL_law_489 (Nat.le_of_ble_eq_true rfl) rfl (Nat.le_of_ble_eq_true rfl) (fun v7 h8 hw => ?_)
  refine r_icmp_eq 1427 C dL_law_492 (by decide) (fun hc => ?_) (fun hc => ?_)
  · replace hw := it_t hc hw
    obtain ⟨v9, ev9⟩ : ∃ v : Int32, v = x3 + (6 : Int32) := ⟨_, rfl⟩
    replace hw := hw v9 ev9
    refine r_iinc v9 [some (.ref b), some (.ref (G.1 a1)), some (.ref (G.1 a2)), some (.int v9)] C dL_law_1427 rfl (by rw [ev9]; rfl) rfl rfl ?_
    refine r_goto 18 C dL_law_1430 (by decide) ?_
    exact hK18 _ _ hw
  · replace hw := it_f hc hw
    refine r_iconst (0) C dL_law_495 (by decide) ?_
    exact r_lawret C hL dL_law_496 (hQ _ hw)
def jL_law_497 (L : Nat) (xs : Nat → Int32) (a1 : Nat) (a2 : Nat) (x3 : Int32) (h : Hp) (K18 : Int32 → Hp → Prop) (Q : Int32 → Prop) : Prop :=
  vp_in (x3 + (1 : Int32)) L ∧ (vp_in (x3 + (2 : Int32)) L ∧ (wX11_pass a1 (xs (x3 + (1 : Int32)).toNatClampNeg) (xs (x3 + (2 : Int32)).toNatClampNeg) h (fun v3 h4 => vp_in (x3 + (1 : Int32)) L ∧ (vp_in (x3 + (2 : Int32)) L ∧ (wX12_pass a2 (xs (x3 + (1 : Int32)).toNatClampNeg) (xs (x3 + (2 : Int32)).toNatClampNeg) h4 (fun v7 h8 => if v3 = v7 then (∀ v9 : Int32, v9 = x3 + (6 : Int32) → (K18 v9 h8)) else (Q (0 : Int32))))))))
set_option maxRecDepth 20000 in
theorem tL_law_497 {G : GG} {X : XX} {kc ks b L : Nat} {xs : Nat → Int32} {a1 : Nat} {a2 : Nat} {x3 : Int32} {h : Hp}  {K18 : Int32 → Hp → Prop} {Q : Int32 → Prop} (C : Cx G RL cL_law 4 ret 1312 kc ks X) (hL : Lx G kc ks b L xs X) (hQ : ∀ v, Q v → v = 1) (k1 : kd a1 = 11) (k2 : kd a2 = 12) (hK18 : ∀ (y3 : Int32) (h' : Hp), K18 y3 h' → R0 G X kc ks (lw_Z X.2.2.2.2.2.2.2.1 #[Value.ref b] X.2.2.2.2.1) 18 [some (.ref b), some (.ref (G.1 a1)), some (.ref (G.1 a2)), some (.int y3)] [] h') (hw : jL_law_497 L xs a1 a2 x3 h K18 Q) : R0 G X kc ks (lw_Z X.2.2.2.2.2.2.2.1 #[Value.ref b] X.2.2.2.2.1) 497 [some (.ref b), some (.ref (G.1 a1)), some (.ref (G.1 a2)), some (.int x3)] [] h := by
  unfold jL_law_497 at hw
  refine r_aload_n C dL_law_497 rfl ?_
  refine r_aload_n C dL_law_498 rfl ?_
  refine r_iload_n C dL_law_499 rfl ?_
  refine r_iconst (1) C dL_law_500 (by decide) ?_
  refine r_iadd C dL_law_501 ?_
  obtain ⟨hi1, hw⟩ := hw
  refine r_sld C hL hi1 dL_law_502 ?_
  refine r_aload_n C dL_law_503 rfl ?_
  refine r_iload_n C dL_law_504 rfl ?_
  refine r_iconst (2) C dL_law_505 (by decide) ?_
  refine r_iadd C dL_law_506 ?_
  obtain ⟨hi2, hw⟩ := hw
  refine r_sld C hL hi2 dL_law_507 ?_
  refine kL_52 C (k1) (sX11_pass (k1) hw) dL_law_508 (Nat.le_of_ble_eq_true rfl) rfl (Nat.le_of_ble_eq_true rfl) (fun v3 h4 hw => ?_)
  refine r_aload_n C dL_law_511 rfl ?_
  refine r_aload_n C dL_law_512 rfl ?_
  refine r_iload_n C dL_law_513 rfl ?_
  refine r_iconst (1) C dL_law_514 (by decide) ?_
  refine r_iadd C dL_law_515 ?_
  obtain ⟨hi5, hw⟩ := hw
  refine r_sld C hL hi5 dL_law_516 ?_
  refine r_aload_n C dL_law_517 rfl ?_
  refine r_iload_n C dL_law_518 rfl ?_
  refine r_iconst (2) C dL_law_519 (by decide) ?_
  refine r_iadd C dL_law_520 ?_
  obtain ⟨hi6, hw⟩ := hw
  refine r_sld C hL hi6 dL_law_521 ?_
  refine kL_55 C (k2) (sX12_pass (k2) hw) dL_law_522 (Nat.le_of_ble_eq_true rfl) rfl (Nat.le_of_ble_eq_true rfl) (fun v7 h8 hw => ?_)
  refine r_icmp_eq 1427 C dL_law_525 (by decide) (fun hc => ?_) (fun hc => ?_)
  · replace hw := it_t hc hw
    obtain ⟨v9, ev9⟩ : ∃ v : Int32, v = x3 + (6 : Int32) := ⟨_, rfl⟩
    replace hw := hw v9 ev9
    refine r_iinc v9 [some (.ref b), some (.ref (G.1 a1)), some (.ref (G.1 a2)), some (.int v9)] C dL_law_1427 rfl (by rw [ev9]; rfl) rfl rfl ?_
    refine r_goto 18 C dL_law_1430 (by decide) ?_
    exact hK18 _ _ hw
  · replace hw := it_f hc hw
    refine r_iconst (0) C dL_law_528 (by decide) ?_
    exact r_lawret C hL dL_law_529 (hQ _ hw)
def jL_law_530 (L : Nat) (xs : Nat → Int32) (a1 : Nat) (a2 : Nat) (x3 : Int32) (h : Hp) (K18 : Int32 → Hp → Prop) (Q : Int32 → Prop) : Prop :=
  vp_in (x3 + (1 : Int32)) L ∧ (wX11_tick a1 (xs (x3 + (1 : Int32)).toNatClampNeg) h (fun v2 h3 => vp_in (x3 + (1 : Int32)) L ∧ (wX12_tick a2 (xs (x3 + (1 : Int32)).toNatClampNeg) h3 (fun v5 h6 => if v2 = v5 then (∀ v7 : Int32, v7 = x3 + (6 : Int32) → (K18 v7 h6)) else (Q (0 : Int32))))))
set_option maxRecDepth 20000 in
theorem tL_law_530 {G : GG} {X : XX} {kc ks b L : Nat} {xs : Nat → Int32} {a1 : Nat} {a2 : Nat} {x3 : Int32} {h : Hp}  {K18 : Int32 → Hp → Prop} {Q : Int32 → Prop} (C : Cx G RL cL_law 4 ret 1312 kc ks X) (hL : Lx G kc ks b L xs X) (hQ : ∀ v, Q v → v = 1) (k1 : kd a1 = 11) (k2 : kd a2 = 12) (hK18 : ∀ (y3 : Int32) (h' : Hp), K18 y3 h' → R0 G X kc ks (lw_Z X.2.2.2.2.2.2.2.1 #[Value.ref b] X.2.2.2.2.1) 18 [some (.ref b), some (.ref (G.1 a1)), some (.ref (G.1 a2)), some (.int y3)] [] h') (hw : jL_law_530 L xs a1 a2 x3 h K18 Q) : R0 G X kc ks (lw_Z X.2.2.2.2.2.2.2.1 #[Value.ref b] X.2.2.2.2.1) 530 [some (.ref b), some (.ref (G.1 a1)), some (.ref (G.1 a2)), some (.int x3)] [] h := by
  unfold jL_law_530 at hw
  refine r_aload_n C dL_law_530 rfl ?_
  refine r_aload_n C dL_law_531 rfl ?_
  refine r_iload_n C dL_law_532 rfl ?_
  refine r_iconst (1) C dL_law_533 (by decide) ?_
  refine r_iadd C dL_law_534 ?_
  obtain ⟨hi1, hw⟩ := hw
  refine r_sld C hL hi1 dL_law_535 ?_
  refine kL_56 C (k1) (sX11_tick (k1) hw) dL_law_536 (Nat.le_of_ble_eq_true rfl) rfl (Nat.le_of_ble_eq_true rfl) (fun v2 h3 hw => ?_)
  refine r_aload_n C dL_law_539 rfl ?_
  refine r_aload_n C dL_law_540 rfl ?_
  refine r_iload_n C dL_law_541 rfl ?_
  refine r_iconst (1) C dL_law_542 (by decide) ?_
  refine r_iadd C dL_law_543 ?_
  obtain ⟨hi4, hw⟩ := hw
  refine r_sld C hL hi4 dL_law_544 ?_
  refine kL_59 C (k2) (sX12_tick (k2) hw) dL_law_545 (Nat.le_of_ble_eq_true rfl) rfl (Nat.le_of_ble_eq_true rfl) (fun v5 h6 hw => ?_)
  refine r_icmp_eq 1427 C dL_law_548 (by decide) (fun hc => ?_) (fun hc => ?_)
  · replace hw := it_t hc hw
    obtain ⟨v7, ev7⟩ : ∃ v : Int32, v = x3 + (6 : Int32) := ⟨_, rfl⟩
    replace hw := hw v7 ev7
    refine r_iinc v7 [some (.ref b), some (.ref (G.1 a1)), some (.ref (G.1 a2)), some (.int v7)] C dL_law_1427 rfl (by rw [ev7]; rfl) rfl rfl ?_
    refine r_goto 18 C dL_law_1430 (by decide) ?_
    exact hK18 _ _ hw
  · replace hw := it_f hc hw
    refine r_iconst (0) C dL_law_551 (by decide) ?_
    exact r_lawret C hL dL_law_552 (hQ _ hw)
def jL_law_553 (L : Nat) (xs : Nat → Int32) (a1 : Nat) (a2 : Nat) (x3 : Int32) (h : Hp) (K18 : Int32 → Hp → Prop) (Q : Int32 → Prop) : Prop :=
  vp_in (x3 + (1 : Int32)) L ∧ (vp_in (x3 + (2 : Int32)) L ∧ (vp_in (x3 + (3 : Int32)) L ∧ (wX11_day a1 (xs (x3 + (1 : Int32)).toNatClampNeg) (xs (x3 + (2 : Int32)).toNatClampNeg) (xs (x3 + (3 : Int32)).toNatClampNeg) h (fun v4 h5 => vp_in (x3 + (1 : Int32)) L ∧ (vp_in (x3 + (2 : Int32)) L ∧ (vp_in (x3 + (3 : Int32)) L ∧ (wX12_day a2 (xs (x3 + (1 : Int32)).toNatClampNeg) (xs (x3 + (2 : Int32)).toNatClampNeg) (xs (x3 + (3 : Int32)).toNatClampNeg) h5 (fun v9 h10 => if v4 = v9 then (∀ v11 : Int32, v11 = x3 + (6 : Int32) → (K18 v11 h10)) else (Q (0 : Int32))))))))))
set_option maxRecDepth 20000 in
theorem tL_law_553 {G : GG} {X : XX} {kc ks b L : Nat} {xs : Nat → Int32} {a1 : Nat} {a2 : Nat} {x3 : Int32} {h : Hp}  {K18 : Int32 → Hp → Prop} {Q : Int32 → Prop} (C : Cx G RL cL_law 4 ret 1312 kc ks X) (hL : Lx G kc ks b L xs X) (hQ : ∀ v, Q v → v = 1) (k1 : kd a1 = 11) (k2 : kd a2 = 12) (hK18 : ∀ (y3 : Int32) (h' : Hp), K18 y3 h' → R0 G X kc ks (lw_Z X.2.2.2.2.2.2.2.1 #[Value.ref b] X.2.2.2.2.1) 18 [some (.ref b), some (.ref (G.1 a1)), some (.ref (G.1 a2)), some (.int y3)] [] h') (hw : jL_law_553 L xs a1 a2 x3 h K18 Q) : R0 G X kc ks (lw_Z X.2.2.2.2.2.2.2.1 #[Value.ref b] X.2.2.2.2.1) 553 [some (.ref b), some (.ref (G.1 a1)), some (.ref (G.1 a2)), some (.int x3)] [] h := by
  unfold jL_law_553 at hw
  refine r_aload_n C dL_law_553 rfl ?_
  refine r_aload_n C dL_law_554 rfl ?_
  refine r_iload_n C dL_law_555 rfl ?_
  refine r_iconst (1) C dL_law_556 (by decide) ?_
  refine r_iadd C dL_law_557 ?_
  obtain ⟨hi1, hw⟩ := hw
  refine r_sld C hL hi1 dL_law_558 ?_
  refine r_aload_n C dL_law_559 rfl ?_
  refine r_iload_n C dL_law_560 rfl ?_
  refine r_iconst (2) C dL_law_561 (by decide) ?_
  refine r_iadd C dL_law_562 ?_
  obtain ⟨hi2, hw⟩ := hw
  refine r_sld C hL hi2 dL_law_563 ?_
  refine r_aload_n C dL_law_564 rfl ?_
  refine r_iload_n C dL_law_565 rfl ?_
  refine r_iconst (3) C dL_law_566 (by decide) ?_
  refine r_iadd C dL_law_567 ?_
  obtain ⟨hi3, hw⟩ := hw
  refine r_sld C hL hi3 dL_law_568 ?_
  refine kL_60 C (k1) (sX11_day (k1) hw) dL_law_569 (Nat.le_of_ble_eq_true rfl) rfl (Nat.le_of_ble_eq_true rfl) (fun v4 h5 hw => ?_)
  refine r_aload_n C dL_law_572 rfl ?_
  refine r_aload_n C dL_law_573 rfl ?_
  refine r_iload_n C dL_law_574 rfl ?_
  refine r_iconst (1) C dL_law_575 (by decide) ?_
  refine r_iadd C dL_law_576 ?_
  obtain ⟨hi6, hw⟩ := hw
  refine r_sld C hL hi6 dL_law_577 ?_
  refine r_aload_n C dL_law_578 rfl ?_
  refine r_iload_n C dL_law_579 rfl ?_
  refine r_iconst (2) C dL_law_580 (by decide) ?_
  refine r_iadd C dL_law_581 ?_
  obtain ⟨hi7, hw⟩ := hw
  refine r_sld C hL hi7 dL_law_582 ?_
  refine r_aload_n C dL_law_583 rfl ?_
  refine r_iload_n C dL_law_584 rfl ?_
  refine r_iconst (3) C dL_law_585 (by decide) ?_
  refine r_iadd C dL_law_586 ?_
  obtain ⟨hi8, hw⟩ := hw
  refine r_sld C hL hi8 dL_law_587 ?_
  refine kL_63 C (k2) (sX12_day (k2) hw) dL_law_588 (Nat.le_of_ble_eq_true rfl) rfl (Nat.le_of_ble_eq_true rfl) (fun v9 h10 hw => ?_)
  refine r_icmp_eq 1427 C dL_law_591 (by decide) (fun hc => ?_) (fun hc => ?_)
  · replace hw := it_t hc hw
    obtain ⟨v11, ev11⟩ : ∃ v : Int32, v = x3 + (6 : Int32) := ⟨_, rfl⟩
    replace hw := hw v11 ev11
    refine r_iinc v11 [some (.ref b), some (.ref (G.1 a1)), some (.ref (G.1 a2)), some (.int v11)] C dL_law_1427 rfl (by rw [ev11]; rfl) rfl rfl ?_
    refine r_goto 18 C dL_law_1430 (by decide) ?_
    exact hK18 _ _ hw
  · replace hw := it_f hc hw
    refine r_iconst (0) C dL_law_594 (by decide) ?_
    exact r_lawret C hL dL_law_595 (hQ _ hw)
def jL_law_596 (L : Nat) (xs : Nat → Int32) (a1 : Nat) (a2 : Nat) (x3 : Int32) (h : Hp) (K18 : Int32 → Hp → Prop) (Q : Int32 → Prop) : Prop :=
  vp_in (x3 + (1 : Int32)) L ∧ (vp_in (x3 + (2 : Int32)) L ∧ (wX11_sum a1 (xs (x3 + (1 : Int32)).toNatClampNeg) (xs (x3 + (2 : Int32)).toNatClampNeg) h (fun v3 h4 => vp_in (x3 + (1 : Int32)) L ∧ (vp_in (x3 + (2 : Int32)) L ∧ (wX12_sum a2 (xs (x3 + (1 : Int32)).toNatClampNeg) (xs (x3 + (2 : Int32)).toNatClampNeg) h4 (fun v7 h8 => if v3 = v7 then (∀ v9 : Int32, v9 = x3 + (6 : Int32) → (K18 v9 h8)) else (Q (0 : Int32))))))))
set_option maxRecDepth 20000 in
theorem tL_law_596 {G : GG} {X : XX} {kc ks b L : Nat} {xs : Nat → Int32} {a1 : Nat} {a2 : Nat} {x3 : Int32} {h : Hp}  {K18 : Int32 → Hp → Prop} {Q : Int32 → Prop} (C : Cx G RL cL_law 4 ret 1312 kc ks X) (hL : Lx G kc ks b L xs X) (hQ : ∀ v, Q v → v = 1) (k1 : kd a1 = 11) (k2 : kd a2 = 12) (hK18 : ∀ (y3 : Int32) (h' : Hp), K18 y3 h' → R0 G X kc ks (lw_Z X.2.2.2.2.2.2.2.1 #[Value.ref b] X.2.2.2.2.1) 18 [some (.ref b), some (.ref (G.1 a1)), some (.ref (G.1 a2)), some (.int y3)] [] h') (hw : jL_law_596 L xs a1 a2 x3 h K18 Q) : R0 G X kc ks (lw_Z X.2.2.2.2.2.2.2.1 #[Value.ref b] X.2.2.2.2.1) 596 [some (.ref b), some (.ref (G.1 a1)), some (.ref (G.1 a2)), some (.int x3)] [] h := by
  unfold jL_law_596 at hw
  refine r_aload_n C dL_law_596 rfl ?_
  refine r_aload_n C dL_law_597 rfl ?_
  refine r_iload_n C dL_law_598 rfl ?_
  refine r_iconst (1) C dL_law_599 (by decide) ?_
  refine r_iadd C dL_law_600 ?_
  obtain ⟨hi1, hw⟩ := hw
  refine r_sld C hL hi1 dL_law_601 ?_
  refine r_aload_n C dL_law_602 rfl ?_
  refine r_iload_n C dL_law_603 rfl ?_
  refine r_iconst (2) C dL_law_604 (by decide) ?_
  refine r_iadd C dL_law_605 ?_
  obtain ⟨hi2, hw⟩ := hw
  refine r_sld C hL hi2 dL_law_606 ?_
  refine kL_64 C (k1) (sX11_sum (k1) hw) dL_law_607 (Nat.le_of_ble_eq_true rfl) rfl (Nat.le_of_ble_eq_true rfl) (fun v3 h4 hw => ?_)
  refine r_aload_n C dL_law_610 rfl ?_
  refine r_aload_n C dL_law_611 rfl ?_
  refine r_iload_n C dL_law_612 rfl ?_
  refine r_iconst (1) C dL_law_613 (by decide) ?_
  refine r_iadd C dL_law_614 ?_
  obtain ⟨hi5, hw⟩ := hw
  refine r_sld C hL hi5 dL_law_615 ?_
  refine r_aload_n C dL_law_616 rfl ?_
  refine r_iload_n C dL_law_617 rfl ?_
  refine r_iconst (2) C dL_law_618 (by decide) ?_
  refine r_iadd C dL_law_619 ?_
  obtain ⟨hi6, hw⟩ := hw
  refine r_sld C hL hi6 dL_law_620 ?_
  refine kL_67 C (k2) (sX12_sum (k2) hw) dL_law_621 (Nat.le_of_ble_eq_true rfl) rfl (Nat.le_of_ble_eq_true rfl) (fun v7 h8 hw => ?_)
  refine r_icmp_eq 1427 C dL_law_624 (by decide) (fun hc => ?_) (fun hc => ?_)
  · replace hw := it_t hc hw
    obtain ⟨v9, ev9⟩ : ∃ v : Int32, v = x3 + (6 : Int32) := ⟨_, rfl⟩
    replace hw := hw v9 ev9
    refine r_iinc v9 [some (.ref b), some (.ref (G.1 a1)), some (.ref (G.1 a2)), some (.int v9)] C dL_law_1427 rfl (by rw [ev9]; rfl) rfl rfl ?_
    refine r_goto 18 C dL_law_1430 (by decide) ?_
    exact hK18 _ _ hw
  · replace hw := it_f hc hw
    refine r_iconst (0) C dL_law_627 (by decide) ?_
    exact r_lawret C hL dL_law_628 (hQ _ hw)
def jL_law_629 (L : Nat) (xs : Nat → Int32) (a1 : Nat) (a2 : Nat) (x3 : Int32) (h : Hp) (K18 : Int32 → Hp → Prop) (Q : Int32 → Prop) : Prop :=
  wX11_best a1 h (fun v1 h2 => wX12_best a2 h2 (fun v3 h4 => if v1 = v3 then (∀ v5 : Int32, v5 = x3 + (6 : Int32) → (K18 v5 h4)) else (Q (0 : Int32))))
set_option maxRecDepth 20000 in
theorem tL_law_629 {G : GG} {X : XX} {kc ks b L : Nat} {xs : Nat → Int32} {a1 : Nat} {a2 : Nat} {x3 : Int32} {h : Hp}  {K18 : Int32 → Hp → Prop} {Q : Int32 → Prop} (C : Cx G RL cL_law 4 ret 1312 kc ks X) (hL : Lx G kc ks b L xs X) (hQ : ∀ v, Q v → v = 1) (k1 : kd a1 = 11) (k2 : kd a2 = 12) (hK18 : ∀ (y3 : Int32) (h' : Hp), K18 y3 h' → R0 G X kc ks (lw_Z X.2.2.2.2.2.2.2.1 #[Value.ref b] X.2.2.2.2.1) 18 [some (.ref b), some (.ref (G.1 a1)), some (.ref (G.1 a2)), some (.int y3)] [] h') (hw : jL_law_629 L xs a1 a2 x3 h K18 Q) : R0 G X kc ks (lw_Z X.2.2.2.2.2.2.2.1 #[Value.ref b] X.2.2.2.2.1) 629 [some (.ref b), some (.ref (G.1 a1)), some (.ref (G.1 a2)), some (.int x3)] [] h := by
  unfold jL_law_629 at hw
  refine r_aload_n C dL_law_629 rfl ?_
  refine kL_68 C (k1) (sX11_best (k1) hw) dL_law_630 (Nat.le_of_ble_eq_true rfl) rfl (Nat.le_of_ble_eq_true rfl) (fun v1 h2 hw => ?_)
  refine r_aload_n C dL_law_633 rfl ?_
  refine kL_72 C (k2) (sX12_best (k2) hw) dL_law_634 (Nat.le_of_ble_eq_true rfl) rfl (Nat.le_of_ble_eq_true rfl) (fun v3 h4 hw => ?_)
  refine r_icmp_eq 1427 C dL_law_637 (by decide) (fun hc => ?_) (fun hc => ?_)
  · replace hw := it_t hc hw
    obtain ⟨v5, ev5⟩ : ∃ v : Int32, v = x3 + (6 : Int32) := ⟨_, rfl⟩
    replace hw := hw v5 ev5
    refine r_iinc v5 [some (.ref b), some (.ref (G.1 a1)), some (.ref (G.1 a2)), some (.int v5)] C dL_law_1427 rfl (by rw [ev5]; rfl) rfl rfl ?_
    refine r_goto 18 C dL_law_1430 (by decide) ?_
    exact hK18 _ _ hw
  · replace hw := it_f hc hw
    refine r_iconst (0) C dL_law_640 (by decide) ?_
    exact r_lawret C hL dL_law_641 (hQ _ hw)
def jL_law_642 (L : Nat) (xs : Nat → Int32) (a1 : Nat) (a2 : Nat) (x3 : Int32) (h : Hp) (K18 : Int32 → Hp → Prop) (Q : Int32 → Prop) : Prop :=
  vp_in (x3 + (1 : Int32)) L ∧ (wX11_reach a1 (xs (x3 + (1 : Int32)).toNatClampNeg) h (fun v2 => vp_in (x3 + (1 : Int32)) L ∧ (wX12_reach a2 (xs (x3 + (1 : Int32)).toNatClampNeg) h (fun v4 h5 => if (lg_cmp v2 v4) = 0 then (∀ v6 : Int32, v6 = x3 + (6 : Int32) → (K18 v6 h5)) else (Q (0 : Int32))))))
set_option maxRecDepth 20000 in
theorem tL_law_642 {G : GG} {X : XX} {kc ks b L : Nat} {xs : Nat → Int32} {a1 : Nat} {a2 : Nat} {x3 : Int32} {h : Hp}  {K18 : Int32 → Hp → Prop} {Q : Int32 → Prop} (C : Cx G RL cL_law 4 ret 1312 kc ks X) (hL : Lx G kc ks b L xs X) (hQ : ∀ v, Q v → v = 1) (k1 : kd a1 = 11) (k2 : kd a2 = 12) (hK18 : ∀ (y3 : Int32) (h' : Hp), K18 y3 h' → R0 G X kc ks (lw_Z X.2.2.2.2.2.2.2.1 #[Value.ref b] X.2.2.2.2.1) 18 [some (.ref b), some (.ref (G.1 a1)), some (.ref (G.1 a2)), some (.int y3)] [] h') (hw : jL_law_642 L xs a1 a2 x3 h K18 Q) : R0 G X kc ks (lw_Z X.2.2.2.2.2.2.2.1 #[Value.ref b] X.2.2.2.2.1) 642 [some (.ref b), some (.ref (G.1 a1)), some (.ref (G.1 a2)), some (.int x3)] [] h := by
  unfold jL_law_642 at hw
  refine r_aload_n C dL_law_642 rfl ?_
  refine r_aload_n C dL_law_643 rfl ?_
  refine r_iload_n C dL_law_644 rfl ?_
  refine r_iconst (1) C dL_law_645 (by decide) ?_
  refine r_iadd C dL_law_646 ?_
  obtain ⟨hi1, hw⟩ := hw
  refine r_sld C hL hi1 dL_law_647 ?_
  refine kL_73 C (k1) (sX11_reach (k1) hw) dL_law_648 (Nat.le_of_ble_eq_true rfl) rfl (Nat.le_of_ble_eq_true rfl) (fun v2 hw => ?_)
  refine r_aload_n C dL_law_651 rfl ?_
  refine r_aload_n C dL_law_652 rfl ?_
  refine r_iload_n C dL_law_653 rfl ?_
  refine r_iconst (1) C dL_law_654 (by decide) ?_
  refine r_iadd C dL_law_655 ?_
  obtain ⟨hi3, hw⟩ := hw
  refine r_sld C hL hi3 dL_law_656 ?_
  refine kL_77 C (k2) (sX12_reach (k2) hw) dL_law_657 (Nat.le_of_ble_eq_true rfl) rfl (Nat.le_of_ble_eq_true rfl) (fun v4 h5 hw => ?_)
  refine r_lcmp C dL_law_660 ?_
  refine r_if_eq 1427 C dL_law_661 (by decide) (fun hc => ?_) (fun hc => ?_)
  · replace hw := it_t hc hw
    obtain ⟨v6, ev6⟩ : ∃ v : Int32, v = x3 + (6 : Int32) := ⟨_, rfl⟩
    replace hw := hw v6 ev6
    refine r_iinc v6 [some (.ref b), some (.ref (G.1 a1)), some (.ref (G.1 a2)), some (.int v6)] C dL_law_1427 rfl (by rw [ev6]; rfl) rfl rfl ?_
    refine r_goto 18 C dL_law_1430 (by decide) ?_
    exact hK18 _ _ hw
  · replace hw := it_f hc hw
    refine r_iconst (0) C dL_law_664 (by decide) ?_
    exact r_lawret C hL dL_law_665 (hQ _ hw)
def jL_law_666 (L : Nat) (xs : Nat → Int32) (a1 : Nat) (a2 : Nat) (x3 : Int32) (h : Hp) (K18 : Int32 → Hp → Prop) (Q : Int32 → Prop) : Prop :=
  vp_in (x3 + (1 : Int32)) L ∧ (vp_in (x3 + (2 : Int32)) L ∧ (wX11_steps a1 (xs (x3 + (1 : Int32)).toNatClampNeg) (xs (x3 + (2 : Int32)).toNatClampNeg) h (fun v3 => vp_in (x3 + (1 : Int32)) L ∧ (vp_in (x3 + (2 : Int32)) L ∧ (wX12_steps a2 (xs (x3 + (1 : Int32)).toNatClampNeg) (xs (x3 + (2 : Int32)).toNatClampNeg) h (fun v6 h7 => if v3 = v6 then (∀ v8 : Int32, v8 = x3 + (6 : Int32) → (K18 v8 h7)) else (Q (0 : Int32))))))))
set_option maxRecDepth 20000 in
theorem tL_law_666 {G : GG} {X : XX} {kc ks b L : Nat} {xs : Nat → Int32} {a1 : Nat} {a2 : Nat} {x3 : Int32} {h : Hp}  {K18 : Int32 → Hp → Prop} {Q : Int32 → Prop} (C : Cx G RL cL_law 4 ret 1312 kc ks X) (hL : Lx G kc ks b L xs X) (hQ : ∀ v, Q v → v = 1) (k1 : kd a1 = 11) (k2 : kd a2 = 12) (hK18 : ∀ (y3 : Int32) (h' : Hp), K18 y3 h' → R0 G X kc ks (lw_Z X.2.2.2.2.2.2.2.1 #[Value.ref b] X.2.2.2.2.1) 18 [some (.ref b), some (.ref (G.1 a1)), some (.ref (G.1 a2)), some (.int y3)] [] h') (hw : jL_law_666 L xs a1 a2 x3 h K18 Q) : R0 G X kc ks (lw_Z X.2.2.2.2.2.2.2.1 #[Value.ref b] X.2.2.2.2.1) 666 [some (.ref b), some (.ref (G.1 a1)), some (.ref (G.1 a2)), some (.int x3)] [] h := by
  unfold jL_law_666 at hw
  refine r_aload_n C dL_law_666 rfl ?_
  refine r_aload_n C dL_law_667 rfl ?_
  refine r_iload_n C dL_law_668 rfl ?_
  refine r_iconst (1) C dL_law_669 (by decide) ?_
  refine r_iadd C dL_law_670 ?_
  obtain ⟨hi1, hw⟩ := hw
  refine r_sld C hL hi1 dL_law_671 ?_
  refine r_aload_n C dL_law_672 rfl ?_
  refine r_iload_n C dL_law_673 rfl ?_
  refine r_iconst (2) C dL_law_674 (by decide) ?_
  refine r_iadd C dL_law_675 ?_
  obtain ⟨hi2, hw⟩ := hw
  refine r_sld C hL hi2 dL_law_676 ?_
  refine kL_78 C (k1) (sX11_steps (k1) hw) dL_law_677 (Nat.le_of_ble_eq_true rfl) rfl (Nat.le_of_ble_eq_true rfl) (fun v3 hw => ?_)
  refine r_aload_n C dL_law_680 rfl ?_
  refine r_aload_n C dL_law_681 rfl ?_
  refine r_iload_n C dL_law_682 rfl ?_
  refine r_iconst (1) C dL_law_683 (by decide) ?_
  refine r_iadd C dL_law_684 ?_
  obtain ⟨hi4, hw⟩ := hw
  refine r_sld C hL hi4 dL_law_685 ?_
  refine r_aload_n C dL_law_686 rfl ?_
  refine r_iload_n C dL_law_687 rfl ?_
  refine r_iconst (2) C dL_law_688 (by decide) ?_
  refine r_iadd C dL_law_689 ?_
  obtain ⟨hi5, hw⟩ := hw
  refine r_sld C hL hi5 dL_law_690 ?_
  refine kL_81 C (k2) (sX12_steps (k2) hw) dL_law_691 (Nat.le_of_ble_eq_true rfl) rfl (Nat.le_of_ble_eq_true rfl) (fun v6 h7 hw => ?_)
  refine r_icmp_eq 1427 C dL_law_694 (by decide) (fun hc => ?_) (fun hc => ?_)
  · replace hw := it_t hc hw
    obtain ⟨v8, ev8⟩ : ∃ v : Int32, v = x3 + (6 : Int32) := ⟨_, rfl⟩
    replace hw := hw v8 ev8
    refine r_iinc v8 [some (.ref b), some (.ref (G.1 a1)), some (.ref (G.1 a2)), some (.int v8)] C dL_law_1427 rfl (by rw [ev8]; rfl) rfl rfl ?_
    refine r_goto 18 C dL_law_1430 (by decide) ?_
    exact hK18 _ _ hw
  · replace hw := it_f hc hw
    refine r_iconst (0) C dL_law_697 (by decide) ?_
    exact r_lawret C hL dL_law_698 (hQ _ hw)
def jL_law_699 (L : Nat) (xs : Nat → Int32) (a1 : Nat) (a2 : Nat) (x3 : Int32) (h : Hp) (K18 : Int32 → Hp → Prop) (Q : Int32 → Prop) : Prop :=
  vp_in (x3 + (1 : Int32)) L ∧ (vp_in (x3 + (2 : Int32)) L ∧ (wX11_boat a1 (xs (x3 + (1 : Int32)).toNatClampNeg) (xs (x3 + (2 : Int32)).toNatClampNeg) h (fun v3 => vp_in (x3 + (1 : Int32)) L ∧ (vp_in (x3 + (2 : Int32)) L ∧ (wX12_boat a2 (xs (x3 + (1 : Int32)).toNatClampNeg) (xs (x3 + (2 : Int32)).toNatClampNeg) h (fun v6 h7 => if v3 = v6 then (∀ v8 : Int32, v8 = x3 + (6 : Int32) → (K18 v8 h7)) else (Q (0 : Int32))))))))
set_option maxRecDepth 20000 in
theorem tL_law_699 {G : GG} {X : XX} {kc ks b L : Nat} {xs : Nat → Int32} {a1 : Nat} {a2 : Nat} {x3 : Int32} {h : Hp}  {K18 : Int32 → Hp → Prop} {Q : Int32 → Prop} (C : Cx G RL cL_law 4 ret 1312 kc ks X) (hL : Lx G kc ks b L xs X) (hQ : ∀ v, Q v → v = 1) (k1 : kd a1 = 11) (k2 : kd a2 = 12) (hK18 : ∀ (y3 : Int32) (h' : Hp), K18 y3 h' → R0 G X kc ks (lw_Z X.2.2.2.2.2.2.2.1 #[Value.ref b] X.2.2.2.2.1) 18 [some (.ref b), some (.ref (G.1 a1)), some (.ref (G.1 a2)), some (.int y3)] [] h') (hw : jL_law_699 L xs a1 a2 x3 h K18 Q) : R0 G X kc ks (lw_Z X.2.2.2.2.2.2.2.1 #[Value.ref b] X.2.2.2.2.1) 699 [some (.ref b), some (.ref (G.1 a1)), some (.ref (G.1 a2)), some (.int x3)] [] h := by
  unfold jL_law_699 at hw
  refine r_aload_n C dL_law_699 rfl ?_
  refine r_aload_n C dL_law_700 rfl ?_
  refine r_iload_n C dL_law_701 rfl ?_
  refine r_iconst (1) C dL_law_702 (by decide) ?_
  refine r_iadd C dL_law_703 ?_
  obtain ⟨hi1, hw⟩ := hw
  refine r_sld C hL hi1 dL_law_704 ?_
  refine r_aload_n C dL_law_705 rfl ?_
  refine r_iload_n C dL_law_706 rfl ?_
  refine r_iconst (2) C dL_law_707 (by decide) ?_
  refine r_iadd C dL_law_708 ?_
  obtain ⟨hi2, hw⟩ := hw
  refine r_sld C hL hi2 dL_law_709 ?_
  refine kL_82 C (k1) (sX11_boat (k1) hw) dL_law_710 (Nat.le_of_ble_eq_true rfl) rfl (Nat.le_of_ble_eq_true rfl) (fun v3 hw => ?_)
  refine r_aload_n C dL_law_713 rfl ?_
  refine r_aload_n C dL_law_714 rfl ?_
  refine r_iload_n C dL_law_715 rfl ?_
  refine r_iconst (1) C dL_law_716 (by decide) ?_
  refine r_iadd C dL_law_717 ?_
  obtain ⟨hi4, hw⟩ := hw
  refine r_sld C hL hi4 dL_law_718 ?_
  refine r_aload_n C dL_law_719 rfl ?_
  refine r_iload_n C dL_law_720 rfl ?_
  refine r_iconst (2) C dL_law_721 (by decide) ?_
  refine r_iadd C dL_law_722 ?_
  obtain ⟨hi5, hw⟩ := hw
  refine r_sld C hL hi5 dL_law_723 ?_
  refine kL_85 C (k2) (sX12_boat (k2) hw) dL_law_724 (Nat.le_of_ble_eq_true rfl) rfl (Nat.le_of_ble_eq_true rfl) (fun v6 h7 hw => ?_)
  refine r_icmp_eq 1427 C dL_law_727 (by decide) (fun hc => ?_) (fun hc => ?_)
  · replace hw := it_t hc hw
    obtain ⟨v8, ev8⟩ : ∃ v : Int32, v = x3 + (6 : Int32) := ⟨_, rfl⟩
    replace hw := hw v8 ev8
    refine r_iinc v8 [some (.ref b), some (.ref (G.1 a1)), some (.ref (G.1 a2)), some (.int v8)] C dL_law_1427 rfl (by rw [ev8]; rfl) rfl rfl ?_
    refine r_goto 18 C dL_law_1430 (by decide) ?_
    exact hK18 _ _ hw
  · replace hw := it_f hc hw
    refine r_iconst (0) C dL_law_730 (by decide) ?_
    exact r_lawret C hL dL_law_731 (hQ _ hw)
def jL_law_732 (L : Nat) (xs : Nat → Int32) (a1 : Nat) (a2 : Nat) (x3 : Int32) (h : Hp) (K18 : Int32 → Hp → Prop) (Q : Int32 → Prop) : Prop :=
  vp_in (x3 + (1 : Int32)) L ∧ (vp_in (x3 + (2 : Int32)) L ∧ (wX11_escort a1 (xs (x3 + (1 : Int32)).toNatClampNeg) (xs (x3 + (2 : Int32)).toNatClampNeg) h (fun v3 => vp_in (x3 + (1 : Int32)) L ∧ (vp_in (x3 + (2 : Int32)) L ∧ (wX12_escort a2 (xs (x3 + (1 : Int32)).toNatClampNeg) (xs (x3 + (2 : Int32)).toNatClampNeg) h (fun v6 h7 => if v3 = v6 then (∀ v8 : Int32, v8 = x3 + (6 : Int32) → (K18 v8 h7)) else (Q (0 : Int32))))))))
set_option maxRecDepth 20000 in
theorem tL_law_732 {G : GG} {X : XX} {kc ks b L : Nat} {xs : Nat → Int32} {a1 : Nat} {a2 : Nat} {x3 : Int32} {h : Hp}  {K18 : Int32 → Hp → Prop} {Q : Int32 → Prop} (C : Cx G RL cL_law 4 ret 1312 kc ks X) (hL : Lx G kc ks b L xs X) (hQ : ∀ v, Q v → v = 1) (k1 : kd a1 = 11) (k2 : kd a2 = 12) (hK18 : ∀ (y3 : Int32) (h' : Hp), K18 y3 h' → R0 G X kc ks (lw_Z X.2.2.2.2.2.2.2.1 #[Value.ref b] X.2.2.2.2.1) 18 [some (.ref b), some (.ref (G.1 a1)), some (.ref (G.1 a2)), some (.int y3)] [] h') (hw : jL_law_732 L xs a1 a2 x3 h K18 Q) : R0 G X kc ks (lw_Z X.2.2.2.2.2.2.2.1 #[Value.ref b] X.2.2.2.2.1) 732 [some (.ref b), some (.ref (G.1 a1)), some (.ref (G.1 a2)), some (.int x3)] [] h := by
  unfold jL_law_732 at hw
  refine r_aload_n C dL_law_732 rfl ?_
  refine r_aload_n C dL_law_733 rfl ?_
  refine r_iload_n C dL_law_734 rfl ?_
  refine r_iconst (1) C dL_law_735 (by decide) ?_
  refine r_iadd C dL_law_736 ?_
  obtain ⟨hi1, hw⟩ := hw
  refine r_sld C hL hi1 dL_law_737 ?_
  refine r_aload_n C dL_law_738 rfl ?_
  refine r_iload_n C dL_law_739 rfl ?_
  refine r_iconst (2) C dL_law_740 (by decide) ?_
  refine r_iadd C dL_law_741 ?_
  obtain ⟨hi2, hw⟩ := hw
  refine r_sld C hL hi2 dL_law_742 ?_
  refine kL_86 C (k1) (sX11_escort (k1) hw) dL_law_743 (Nat.le_of_ble_eq_true rfl) rfl (Nat.le_of_ble_eq_true rfl) (fun v3 hw => ?_)
  refine r_aload_n C dL_law_746 rfl ?_
  refine r_aload_n C dL_law_747 rfl ?_
  refine r_iload_n C dL_law_748 rfl ?_
  refine r_iconst (1) C dL_law_749 (by decide) ?_
  refine r_iadd C dL_law_750 ?_
  obtain ⟨hi4, hw⟩ := hw
  refine r_sld C hL hi4 dL_law_751 ?_
  refine r_aload_n C dL_law_752 rfl ?_
  refine r_iload_n C dL_law_753 rfl ?_
  refine r_iconst (2) C dL_law_754 (by decide) ?_
  refine r_iadd C dL_law_755 ?_
  obtain ⟨hi5, hw⟩ := hw
  refine r_sld C hL hi5 dL_law_756 ?_
  refine kL_89 C (k2) (sX12_escort (k2) hw) dL_law_757 (Nat.le_of_ble_eq_true rfl) rfl (Nat.le_of_ble_eq_true rfl) (fun v6 h7 hw => ?_)
  refine r_icmp_eq 1427 C dL_law_760 (by decide) (fun hc => ?_) (fun hc => ?_)
  · replace hw := it_t hc hw
    obtain ⟨v8, ev8⟩ : ∃ v : Int32, v = x3 + (6 : Int32) := ⟨_, rfl⟩
    replace hw := hw v8 ev8
    refine r_iinc v8 [some (.ref b), some (.ref (G.1 a1)), some (.ref (G.1 a2)), some (.int v8)] C dL_law_1427 rfl (by rw [ev8]; rfl) rfl rfl ?_
    refine r_goto 18 C dL_law_1430 (by decide) ?_
    exact hK18 _ _ hw
  · replace hw := it_f hc hw
    refine r_iconst (0) C dL_law_763 (by decide) ?_
    exact r_lawret C hL dL_law_764 (hQ _ hw)
def jL_law_765 (L : Nat) (xs : Nat → Int32) (a1 : Nat) (a2 : Nat) (x3 : Int32) (h : Hp) (K18 : Int32 → Hp → Prop) (Q : Int32 → Prop) : Prop :=
  vp_in (x3 + (1 : Int32)) L ∧ (wX11_soon a1 (xs (x3 + (1 : Int32)).toNatClampNeg) h (fun v2 => vp_in (x3 + (1 : Int32)) L ∧ (wX12_soon a2 (xs (x3 + (1 : Int32)).toNatClampNeg) h (fun v4 => if v2 = v4 then (∀ v5 : Int32, v5 = x3 + (6 : Int32) → (K18 v5 h)) else (Q (0 : Int32))))))
set_option maxRecDepth 20000 in
theorem tL_law_765 {G : GG} {X : XX} {kc ks b L : Nat} {xs : Nat → Int32} {a1 : Nat} {a2 : Nat} {x3 : Int32} {h : Hp}  {K18 : Int32 → Hp → Prop} {Q : Int32 → Prop} (C : Cx G RL cL_law 4 ret 1312 kc ks X) (hL : Lx G kc ks b L xs X) (hQ : ∀ v, Q v → v = 1) (k1 : kd a1 = 11) (k2 : kd a2 = 12) (hK18 : ∀ (y3 : Int32) (h' : Hp), K18 y3 h' → R0 G X kc ks (lw_Z X.2.2.2.2.2.2.2.1 #[Value.ref b] X.2.2.2.2.1) 18 [some (.ref b), some (.ref (G.1 a1)), some (.ref (G.1 a2)), some (.int y3)] [] h') (hw : jL_law_765 L xs a1 a2 x3 h K18 Q) : R0 G X kc ks (lw_Z X.2.2.2.2.2.2.2.1 #[Value.ref b] X.2.2.2.2.1) 765 [some (.ref b), some (.ref (G.1 a1)), some (.ref (G.1 a2)), some (.int x3)] [] h := by
  unfold jL_law_765 at hw
  refine r_aload_n C dL_law_765 rfl ?_
  refine r_aload_n C dL_law_766 rfl ?_
  refine r_iload_n C dL_law_767 rfl ?_
  refine r_iconst (1) C dL_law_768 (by decide) ?_
  refine r_iadd C dL_law_769 ?_
  obtain ⟨hi1, hw⟩ := hw
  refine r_sld C hL hi1 dL_law_770 ?_
  refine kL_90 C (k1) (sX11_soon (k1) hw) dL_law_771 (Nat.le_of_ble_eq_true rfl) rfl (Nat.le_of_ble_eq_true rfl) (fun v2 hw => ?_)
  refine r_aload_n C dL_law_774 rfl ?_
  refine r_aload_n C dL_law_775 rfl ?_
  refine r_iload_n C dL_law_776 rfl ?_
  refine r_iconst (1) C dL_law_777 (by decide) ?_
  refine r_iadd C dL_law_778 ?_
  obtain ⟨hi3, hw⟩ := hw
  refine r_sld C hL hi3 dL_law_779 ?_
  refine kL_93 C (k2) (sX12_soon (k2) hw) dL_law_780 (Nat.le_of_ble_eq_true rfl) rfl (Nat.le_of_ble_eq_true rfl) (fun v4 hw => ?_)
  refine r_icmp_eq 1427 C dL_law_783 (by decide) (fun hc => ?_) (fun hc => ?_)
  · replace hw := it_t hc hw
    obtain ⟨v5, ev5⟩ : ∃ v : Int32, v = x3 + (6 : Int32) := ⟨_, rfl⟩
    replace hw := hw v5 ev5
    refine r_iinc v5 [some (.ref b), some (.ref (G.1 a1)), some (.ref (G.1 a2)), some (.int v5)] C dL_law_1427 rfl (by rw [ev5]; rfl) rfl rfl ?_
    refine r_goto 18 C dL_law_1430 (by decide) ?_
    exact hK18 _ _ hw
  · replace hw := it_f hc hw
    refine r_iconst (0) C dL_law_786 (by decide) ?_
    exact r_lawret C hL dL_law_787 (hQ _ hw)
def jL_law_788 (L : Nat) (xs : Nat → Int32) (a1 : Nat) (a2 : Nat) (x3 : Int32) (h : Hp) (K18 : Int32 → Hp → Prop) (Q : Int32 → Prop) : Prop :=
  vp_in (x3 + (1 : Int32)) L ∧ (vp_in (x3 + (2 : Int32)) L ∧ (vp_in (x3 + (3 : Int32)) L ∧ (wX11_waits a1 (xs (x3 + (1 : Int32)).toNatClampNeg) (xs (x3 + (2 : Int32)).toNatClampNeg) (xs (x3 + (3 : Int32)).toNatClampNeg) h (fun v4 h5 => vp_in (x3 + (1 : Int32)) L ∧ (vp_in (x3 + (2 : Int32)) L ∧ (vp_in (x3 + (3 : Int32)) L ∧ (wX12_waits a2 (xs (x3 + (1 : Int32)).toNatClampNeg) (xs (x3 + (2 : Int32)).toNatClampNeg) (xs (x3 + (3 : Int32)).toNatClampNeg) h5 (fun v9 h10 => if (lg_cmp v4 v9) = 0 then (∀ v11 : Int32, v11 = x3 + (6 : Int32) → (K18 v11 h10)) else (Q (0 : Int32))))))))))
set_option maxRecDepth 20000 in
theorem tL_law_788 {G : GG} {X : XX} {kc ks b L : Nat} {xs : Nat → Int32} {a1 : Nat} {a2 : Nat} {x3 : Int32} {h : Hp}  {K18 : Int32 → Hp → Prop} {Q : Int32 → Prop} (C : Cx G RL cL_law 4 ret 1312 kc ks X) (hL : Lx G kc ks b L xs X) (hQ : ∀ v, Q v → v = 1) (k1 : kd a1 = 11) (k2 : kd a2 = 12) (hK18 : ∀ (y3 : Int32) (h' : Hp), K18 y3 h' → R0 G X kc ks (lw_Z X.2.2.2.2.2.2.2.1 #[Value.ref b] X.2.2.2.2.1) 18 [some (.ref b), some (.ref (G.1 a1)), some (.ref (G.1 a2)), some (.int y3)] [] h') (hw : jL_law_788 L xs a1 a2 x3 h K18 Q) : R0 G X kc ks (lw_Z X.2.2.2.2.2.2.2.1 #[Value.ref b] X.2.2.2.2.1) 788 [some (.ref b), some (.ref (G.1 a1)), some (.ref (G.1 a2)), some (.int x3)] [] h := by
  unfold jL_law_788 at hw
  refine r_aload_n C dL_law_788 rfl ?_
  refine r_aload_n C dL_law_789 rfl ?_
  refine r_iload_n C dL_law_790 rfl ?_
  refine r_iconst (1) C dL_law_791 (by decide) ?_
  refine r_iadd C dL_law_792 ?_
  obtain ⟨hi1, hw⟩ := hw
  refine r_sld C hL hi1 dL_law_793 ?_
  refine r_aload_n C dL_law_794 rfl ?_
  refine r_iload_n C dL_law_795 rfl ?_
  refine r_iconst (2) C dL_law_796 (by decide) ?_
  refine r_iadd C dL_law_797 ?_
  obtain ⟨hi2, hw⟩ := hw
  refine r_sld C hL hi2 dL_law_798 ?_
  refine r_aload_n C dL_law_799 rfl ?_
  refine r_iload_n C dL_law_800 rfl ?_
  refine r_iconst (3) C dL_law_801 (by decide) ?_
  refine r_iadd C dL_law_802 ?_
  obtain ⟨hi3, hw⟩ := hw
  refine r_sld C hL hi3 dL_law_803 ?_
  refine kL_94 C (k1) (sX11_waits (k1) hw) dL_law_804 (Nat.le_of_ble_eq_true rfl) rfl (Nat.le_of_ble_eq_true rfl) (fun v4 h5 hw => ?_)
  refine r_aload_n C dL_law_807 rfl ?_
  refine r_aload_n C dL_law_808 rfl ?_
  refine r_iload_n C dL_law_809 rfl ?_
  refine r_iconst (1) C dL_law_810 (by decide) ?_
  refine r_iadd C dL_law_811 ?_
  obtain ⟨hi6, hw⟩ := hw
  refine r_sld C hL hi6 dL_law_812 ?_
  refine r_aload_n C dL_law_813 rfl ?_
  refine r_iload_n C dL_law_814 rfl ?_
  refine r_iconst (2) C dL_law_815 (by decide) ?_
  refine r_iadd C dL_law_816 ?_
  obtain ⟨hi7, hw⟩ := hw
  refine r_sld C hL hi7 dL_law_817 ?_
  refine r_aload_n C dL_law_818 rfl ?_
  refine r_iload_n C dL_law_819 rfl ?_
  refine r_iconst (3) C dL_law_820 (by decide) ?_
  refine r_iadd C dL_law_821 ?_
  obtain ⟨hi8, hw⟩ := hw
  refine r_sld C hL hi8 dL_law_822 ?_
  refine kL_98 C (k2) (sX12_waits (k2) hw) dL_law_823 (Nat.le_of_ble_eq_true rfl) rfl (Nat.le_of_ble_eq_true rfl) (fun v9 h10 hw => ?_)
  refine r_lcmp C dL_law_826 ?_
  refine r_if_eq 1427 C dL_law_827 (by decide) (fun hc => ?_) (fun hc => ?_)
  · replace hw := it_t hc hw
    obtain ⟨v11, ev11⟩ : ∃ v : Int32, v = x3 + (6 : Int32) := ⟨_, rfl⟩
    replace hw := hw v11 ev11
    refine r_iinc v11 [some (.ref b), some (.ref (G.1 a1)), some (.ref (G.1 a2)), some (.int v11)] C dL_law_1427 rfl (by rw [ev11]; rfl) rfl rfl ?_
    refine r_goto 18 C dL_law_1430 (by decide) ?_
    exact hK18 _ _ hw
  · replace hw := it_f hc hw
    refine r_iconst (0) C dL_law_830 (by decide) ?_
    exact r_lawret C hL dL_law_831 (hQ _ hw)
def jL_law_832 (L : Nat) (xs : Nat → Int32) (a1 : Nat) (a2 : Nat) (x3 : Int32) (h : Hp) (K18 : Int32 → Hp → Prop) (Q : Int32 → Prop) : Prop :=
  vp_in (x3 + (1 : Int32)) L ∧ (vp_in (x3 + (2 : Int32)) L ∧ (vp_in (x3 + (3 : Int32)) L ∧ (wX11_drawn a1 (xs (x3 + (1 : Int32)).toNatClampNeg) (xs (x3 + (2 : Int32)).toNatClampNeg) (xs (x3 + (3 : Int32)).toNatClampNeg) h (fun v4 h5 => vp_in (x3 + (1 : Int32)) L ∧ (vp_in (x3 + (2 : Int32)) L ∧ (vp_in (x3 + (3 : Int32)) L ∧ (wX12_drawn a2 (xs (x3 + (1 : Int32)).toNatClampNeg) (xs (x3 + (2 : Int32)).toNatClampNeg) (xs (x3 + (3 : Int32)).toNatClampNeg) h5 (fun v9 h10 => if v4 = v9 then (∀ v11 : Int32, v11 = x3 + (6 : Int32) → (K18 v11 h10)) else (Q (0 : Int32))))))))))
set_option maxRecDepth 20000 in
theorem tL_law_832 {G : GG} {X : XX} {kc ks b L : Nat} {xs : Nat → Int32} {a1 : Nat} {a2 : Nat} {x3 : Int32} {h : Hp}  {K18 : Int32 → Hp → Prop} {Q : Int32 → Prop} (C : Cx G RL cL_law 4 ret 1312 kc ks X) (hL : Lx G kc ks b L xs X) (hQ : ∀ v, Q v → v = 1) (k1 : kd a1 = 11) (k2 : kd a2 = 12) (hK18 : ∀ (y3 : Int32) (h' : Hp), K18 y3 h' → R0 G X kc ks (lw_Z X.2.2.2.2.2.2.2.1 #[Value.ref b] X.2.2.2.2.1) 18 [some (.ref b), some (.ref (G.1 a1)), some (.ref (G.1 a2)), some (.int y3)] [] h') (hw : jL_law_832 L xs a1 a2 x3 h K18 Q) : R0 G X kc ks (lw_Z X.2.2.2.2.2.2.2.1 #[Value.ref b] X.2.2.2.2.1) 832 [some (.ref b), some (.ref (G.1 a1)), some (.ref (G.1 a2)), some (.int x3)] [] h := by
  unfold jL_law_832 at hw
  refine r_aload_n C dL_law_832 rfl ?_
  refine r_aload_n C dL_law_833 rfl ?_
  refine r_iload_n C dL_law_834 rfl ?_
  refine r_iconst (1) C dL_law_835 (by decide) ?_
  refine r_iadd C dL_law_836 ?_
  obtain ⟨hi1, hw⟩ := hw
  refine r_sld C hL hi1 dL_law_837 ?_
  refine r_aload_n C dL_law_838 rfl ?_
  refine r_iload_n C dL_law_839 rfl ?_
  refine r_iconst (2) C dL_law_840 (by decide) ?_
  refine r_iadd C dL_law_841 ?_
  obtain ⟨hi2, hw⟩ := hw
  refine r_sld C hL hi2 dL_law_842 ?_
  refine r_aload_n C dL_law_843 rfl ?_
  refine r_iload_n C dL_law_844 rfl ?_
  refine r_iconst (3) C dL_law_845 (by decide) ?_
  refine r_iadd C dL_law_846 ?_
  obtain ⟨hi3, hw⟩ := hw
  refine r_sld C hL hi3 dL_law_847 ?_
  refine kL_99 C (k1) (sX11_drawn (k1) hw) dL_law_848 (Nat.le_of_ble_eq_true rfl) rfl (Nat.le_of_ble_eq_true rfl) (fun v4 h5 hw => ?_)
  refine r_aload_n C dL_law_851 rfl ?_
  refine r_aload_n C dL_law_852 rfl ?_
  refine r_iload_n C dL_law_853 rfl ?_
  refine r_iconst (1) C dL_law_854 (by decide) ?_
  refine r_iadd C dL_law_855 ?_
  obtain ⟨hi6, hw⟩ := hw
  refine r_sld C hL hi6 dL_law_856 ?_
  refine r_aload_n C dL_law_857 rfl ?_
  refine r_iload_n C dL_law_858 rfl ?_
  refine r_iconst (2) C dL_law_859 (by decide) ?_
  refine r_iadd C dL_law_860 ?_
  obtain ⟨hi7, hw⟩ := hw
  refine r_sld C hL hi7 dL_law_861 ?_
  refine r_aload_n C dL_law_862 rfl ?_
  refine r_iload_n C dL_law_863 rfl ?_
  refine r_iconst (3) C dL_law_864 (by decide) ?_
  refine r_iadd C dL_law_865 ?_
  obtain ⟨hi8, hw⟩ := hw
  refine r_sld C hL hi8 dL_law_866 ?_
  refine kL_102 C (k2) (sX12_drawn (k2) hw) dL_law_867 (Nat.le_of_ble_eq_true rfl) rfl (Nat.le_of_ble_eq_true rfl) (fun v9 h10 hw => ?_)
  refine r_icmp_eq 1427 C dL_law_870 (by decide) (fun hc => ?_) (fun hc => ?_)
  · replace hw := it_t hc hw
    obtain ⟨v11, ev11⟩ : ∃ v : Int32, v = x3 + (6 : Int32) := ⟨_, rfl⟩
    replace hw := hw v11 ev11
    refine r_iinc v11 [some (.ref b), some (.ref (G.1 a1)), some (.ref (G.1 a2)), some (.int v11)] C dL_law_1427 rfl (by rw [ev11]; rfl) rfl rfl ?_
    refine r_goto 18 C dL_law_1430 (by decide) ?_
    exact hK18 _ _ hw
  · replace hw := it_f hc hw
    refine r_iconst (0) C dL_law_873 (by decide) ?_
    exact r_lawret C hL dL_law_874 (hQ _ hw)
def jL_law_875 (L : Nat) (xs : Nat → Int32) (a1 : Nat) (a2 : Nat) (x3 : Int32) (h : Hp) (K18 : Int32 → Hp → Prop) (Q : Int32 → Prop) : Prop :=
  vp_in (x3 + (1 : Int32)) L ∧ (vp_in (x3 + (2 : Int32)) L ∧ (wX11_judge a1 (xs (x3 + (1 : Int32)).toNatClampNeg) (xs (x3 + (2 : Int32)).toNatClampNeg) h (fun v3 => vp_in (x3 + (1 : Int32)) L ∧ (vp_in (x3 + (2 : Int32)) L ∧ (wX12_judge a2 (xs (x3 + (1 : Int32)).toNatClampNeg) (xs (x3 + (2 : Int32)).toNatClampNeg) h (fun v6 h7 => if v3 = v6 then (∀ v8 : Int32, v8 = x3 + (6 : Int32) → (K18 v8 h7)) else (Q (0 : Int32))))))))
set_option maxRecDepth 20000 in
theorem tL_law_875 {G : GG} {X : XX} {kc ks b L : Nat} {xs : Nat → Int32} {a1 : Nat} {a2 : Nat} {x3 : Int32} {h : Hp}  {K18 : Int32 → Hp → Prop} {Q : Int32 → Prop} (C : Cx G RL cL_law 4 ret 1312 kc ks X) (hL : Lx G kc ks b L xs X) (hQ : ∀ v, Q v → v = 1) (k1 : kd a1 = 11) (k2 : kd a2 = 12) (hK18 : ∀ (y3 : Int32) (h' : Hp), K18 y3 h' → R0 G X kc ks (lw_Z X.2.2.2.2.2.2.2.1 #[Value.ref b] X.2.2.2.2.1) 18 [some (.ref b), some (.ref (G.1 a1)), some (.ref (G.1 a2)), some (.int y3)] [] h') (hw : jL_law_875 L xs a1 a2 x3 h K18 Q) : R0 G X kc ks (lw_Z X.2.2.2.2.2.2.2.1 #[Value.ref b] X.2.2.2.2.1) 875 [some (.ref b), some (.ref (G.1 a1)), some (.ref (G.1 a2)), some (.int x3)] [] h := by
  unfold jL_law_875 at hw
  refine r_aload_n C dL_law_875 rfl ?_
  refine r_aload_n C dL_law_876 rfl ?_
  refine r_iload_n C dL_law_877 rfl ?_
  refine r_iconst (1) C dL_law_878 (by decide) ?_
  refine r_iadd C dL_law_879 ?_
  obtain ⟨hi1, hw⟩ := hw
  refine r_sld C hL hi1 dL_law_880 ?_
  refine r_aload_n C dL_law_881 rfl ?_
  refine r_iload_n C dL_law_882 rfl ?_
  refine r_iconst (2) C dL_law_883 (by decide) ?_
  refine r_iadd C dL_law_884 ?_
  obtain ⟨hi2, hw⟩ := hw
  refine r_sld C hL hi2 dL_law_885 ?_
  refine kL_103 C (k1) (sX11_judge (k1) hw) dL_law_886 (Nat.le_of_ble_eq_true rfl) rfl (Nat.le_of_ble_eq_true rfl) (fun v3 hw => ?_)
  refine r_aload_n C dL_law_889 rfl ?_
  refine r_aload_n C dL_law_890 rfl ?_
  refine r_iload_n C dL_law_891 rfl ?_
  refine r_iconst (1) C dL_law_892 (by decide) ?_
  refine r_iadd C dL_law_893 ?_
  obtain ⟨hi4, hw⟩ := hw
  refine r_sld C hL hi4 dL_law_894 ?_
  refine r_aload_n C dL_law_895 rfl ?_
  refine r_iload_n C dL_law_896 rfl ?_
  refine r_iconst (2) C dL_law_897 (by decide) ?_
  refine r_iadd C dL_law_898 ?_
  obtain ⟨hi5, hw⟩ := hw
  refine r_sld C hL hi5 dL_law_899 ?_
  refine kL_106 C (k2) (sX12_judge (k2) hw) dL_law_900 (Nat.le_of_ble_eq_true rfl) rfl (Nat.le_of_ble_eq_true rfl) (fun v6 h7 hw => ?_)
  refine r_icmp_eq 1427 C dL_law_903 (by decide) (fun hc => ?_) (fun hc => ?_)
  · replace hw := it_t hc hw
    obtain ⟨v8, ev8⟩ : ∃ v : Int32, v = x3 + (6 : Int32) := ⟨_, rfl⟩
    replace hw := hw v8 ev8
    refine r_iinc v8 [some (.ref b), some (.ref (G.1 a1)), some (.ref (G.1 a2)), some (.int v8)] C dL_law_1427 rfl (by rw [ev8]; rfl) rfl rfl ?_
    refine r_goto 18 C dL_law_1430 (by decide) ?_
    exact hK18 _ _ hw
  · replace hw := it_f hc hw
    refine r_iconst (0) C dL_law_906 (by decide) ?_
    exact r_lawret C hL dL_law_907 (hQ _ hw)
def jL_law_908 (L : Nat) (xs : Nat → Int32) (a1 : Nat) (a2 : Nat) (x3 : Int32) (h : Hp) (K18 : Int32 → Hp → Prop) (Q : Int32 → Prop) : Prop :=
  vp_in (x3 + (1 : Int32)) L ∧ (vp_in (x3 + (2 : Int32)) L ∧ (wX11_within a1 (xs (x3 + (1 : Int32)).toNatClampNeg) (xs (x3 + (2 : Int32)).toNatClampNeg) h (fun v3 => vp_in (x3 + (1 : Int32)) L ∧ (vp_in (x3 + (2 : Int32)) L ∧ (wX12_within a2 (xs (x3 + (1 : Int32)).toNatClampNeg) (xs (x3 + (2 : Int32)).toNatClampNeg) h (fun v6 h7 => if v3 = v6 then (∀ v8 : Int32, v8 = x3 + (6 : Int32) → (K18 v8 h7)) else (Q (0 : Int32))))))))
set_option maxRecDepth 20000 in
theorem tL_law_908 {G : GG} {X : XX} {kc ks b L : Nat} {xs : Nat → Int32} {a1 : Nat} {a2 : Nat} {x3 : Int32} {h : Hp}  {K18 : Int32 → Hp → Prop} {Q : Int32 → Prop} (C : Cx G RL cL_law 4 ret 1312 kc ks X) (hL : Lx G kc ks b L xs X) (hQ : ∀ v, Q v → v = 1) (k1 : kd a1 = 11) (k2 : kd a2 = 12) (hK18 : ∀ (y3 : Int32) (h' : Hp), K18 y3 h' → R0 G X kc ks (lw_Z X.2.2.2.2.2.2.2.1 #[Value.ref b] X.2.2.2.2.1) 18 [some (.ref b), some (.ref (G.1 a1)), some (.ref (G.1 a2)), some (.int y3)] [] h') (hw : jL_law_908 L xs a1 a2 x3 h K18 Q) : R0 G X kc ks (lw_Z X.2.2.2.2.2.2.2.1 #[Value.ref b] X.2.2.2.2.1) 908 [some (.ref b), some (.ref (G.1 a1)), some (.ref (G.1 a2)), some (.int x3)] [] h := by
  unfold jL_law_908 at hw
  refine r_aload_n C dL_law_908 rfl ?_
  refine r_aload_n C dL_law_909 rfl ?_
  refine r_iload_n C dL_law_910 rfl ?_
  refine r_iconst (1) C dL_law_911 (by decide) ?_
  refine r_iadd C dL_law_912 ?_
  obtain ⟨hi1, hw⟩ := hw
  refine r_sld C hL hi1 dL_law_913 ?_
  refine r_aload_n C dL_law_914 rfl ?_
  refine r_iload_n C dL_law_915 rfl ?_
  refine r_iconst (2) C dL_law_916 (by decide) ?_
  refine r_iadd C dL_law_917 ?_
  obtain ⟨hi2, hw⟩ := hw
  refine r_sld C hL hi2 dL_law_918 ?_
  refine kL_107 C (k1) (sX11_within (k1) hw) dL_law_919 (Nat.le_of_ble_eq_true rfl) rfl (Nat.le_of_ble_eq_true rfl) (fun v3 hw => ?_)
  refine r_aload_n C dL_law_922 rfl ?_
  refine r_aload_n C dL_law_923 rfl ?_
  refine r_iload_n C dL_law_924 rfl ?_
  refine r_iconst (1) C dL_law_925 (by decide) ?_
  refine r_iadd C dL_law_926 ?_
  obtain ⟨hi4, hw⟩ := hw
  refine r_sld C hL hi4 dL_law_927 ?_
  refine r_aload_n C dL_law_928 rfl ?_
  refine r_iload_n C dL_law_929 rfl ?_
  refine r_iconst (2) C dL_law_930 (by decide) ?_
  refine r_iadd C dL_law_931 ?_
  obtain ⟨hi5, hw⟩ := hw
  refine r_sld C hL hi5 dL_law_932 ?_
  refine kL_110 C (k2) (sX12_within (k2) hw) dL_law_933 (Nat.le_of_ble_eq_true rfl) rfl (Nat.le_of_ble_eq_true rfl) (fun v6 h7 hw => ?_)
  refine r_icmp_eq 1427 C dL_law_936 (by decide) (fun hc => ?_) (fun hc => ?_)
  · replace hw := it_t hc hw
    obtain ⟨v8, ev8⟩ : ∃ v : Int32, v = x3 + (6 : Int32) := ⟨_, rfl⟩
    replace hw := hw v8 ev8
    refine r_iinc v8 [some (.ref b), some (.ref (G.1 a1)), some (.ref (G.1 a2)), some (.int v8)] C dL_law_1427 rfl (by rw [ev8]; rfl) rfl rfl ?_
    refine r_goto 18 C dL_law_1430 (by decide) ?_
    exact hK18 _ _ hw
  · replace hw := it_f hc hw
    refine r_iconst (0) C dL_law_939 (by decide) ?_
    exact r_lawret C hL dL_law_940 (hQ _ hw)
def jL_law_941 (L : Nat) (xs : Nat → Int32) (a1 : Nat) (a2 : Nat) (x3 : Int32) (h : Hp) (K18 : Int32 → Hp → Prop) (Q : Int32 → Prop) : Prop :=
  vp_in (x3 + (1 : Int32)) L ∧ (vp_in (x3 + (2 : Int32)) L ∧ (vp_in (x3 + (3 : Int32)) L ∧ (wX11_turned a1 (xs (x3 + (1 : Int32)).toNatClampNeg) (xs (x3 + (2 : Int32)).toNatClampNeg) (xs (x3 + (3 : Int32)).toNatClampNeg) h (fun v4 => vp_in (x3 + (1 : Int32)) L ∧ (vp_in (x3 + (2 : Int32)) L ∧ (vp_in (x3 + (3 : Int32)) L ∧ (wX12_turned a2 (xs (x3 + (1 : Int32)).toNatClampNeg) (xs (x3 + (2 : Int32)).toNatClampNeg) (xs (x3 + (3 : Int32)).toNatClampNeg) h (fun v8 h9 => if v4 = v8 then (∀ v10 : Int32, v10 = x3 + (6 : Int32) → (K18 v10 h9)) else (Q (0 : Int32))))))))))
set_option maxRecDepth 20000 in
theorem tL_law_941 {G : GG} {X : XX} {kc ks b L : Nat} {xs : Nat → Int32} {a1 : Nat} {a2 : Nat} {x3 : Int32} {h : Hp}  {K18 : Int32 → Hp → Prop} {Q : Int32 → Prop} (C : Cx G RL cL_law 4 ret 1312 kc ks X) (hL : Lx G kc ks b L xs X) (hQ : ∀ v, Q v → v = 1) (k1 : kd a1 = 11) (k2 : kd a2 = 12) (hK18 : ∀ (y3 : Int32) (h' : Hp), K18 y3 h' → R0 G X kc ks (lw_Z X.2.2.2.2.2.2.2.1 #[Value.ref b] X.2.2.2.2.1) 18 [some (.ref b), some (.ref (G.1 a1)), some (.ref (G.1 a2)), some (.int y3)] [] h') (hw : jL_law_941 L xs a1 a2 x3 h K18 Q) : R0 G X kc ks (lw_Z X.2.2.2.2.2.2.2.1 #[Value.ref b] X.2.2.2.2.1) 941 [some (.ref b), some (.ref (G.1 a1)), some (.ref (G.1 a2)), some (.int x3)] [] h := by
  unfold jL_law_941 at hw
  refine r_aload_n C dL_law_941 rfl ?_
  refine r_aload_n C dL_law_942 rfl ?_
  refine r_iload_n C dL_law_943 rfl ?_
  refine r_iconst (1) C dL_law_944 (by decide) ?_
  refine r_iadd C dL_law_945 ?_
  obtain ⟨hi1, hw⟩ := hw
  refine r_sld C hL hi1 dL_law_946 ?_
  refine r_aload_n C dL_law_947 rfl ?_
  refine r_iload_n C dL_law_948 rfl ?_
  refine r_iconst (2) C dL_law_949 (by decide) ?_
  refine r_iadd C dL_law_950 ?_
  obtain ⟨hi2, hw⟩ := hw
  refine r_sld C hL hi2 dL_law_951 ?_
  refine r_aload_n C dL_law_952 rfl ?_
  refine r_iload_n C dL_law_953 rfl ?_
  refine r_iconst (3) C dL_law_954 (by decide) ?_
  refine r_iadd C dL_law_955 ?_
  obtain ⟨hi3, hw⟩ := hw
  refine r_sld C hL hi3 dL_law_956 ?_
  refine kL_111 C (k1) (sX11_turned (k1) hw) dL_law_957 (Nat.le_of_ble_eq_true rfl) rfl (Nat.le_of_ble_eq_true rfl) (fun v4 hw => ?_)
  refine r_aload_n C dL_law_960 rfl ?_
  refine r_aload_n C dL_law_961 rfl ?_
  refine r_iload_n C dL_law_962 rfl ?_
  refine r_iconst (1) C dL_law_963 (by decide) ?_
  refine r_iadd C dL_law_964 ?_
  obtain ⟨hi5, hw⟩ := hw
  refine r_sld C hL hi5 dL_law_965 ?_
  refine r_aload_n C dL_law_966 rfl ?_
  refine r_iload_n C dL_law_967 rfl ?_
  refine r_iconst (2) C dL_law_968 (by decide) ?_
  refine r_iadd C dL_law_969 ?_
  obtain ⟨hi6, hw⟩ := hw
  refine r_sld C hL hi6 dL_law_970 ?_
  refine r_aload_n C dL_law_971 rfl ?_
  refine r_iload_n C dL_law_972 rfl ?_
  refine r_iconst (3) C dL_law_973 (by decide) ?_
  refine r_iadd C dL_law_974 ?_
  obtain ⟨hi7, hw⟩ := hw
  refine r_sld C hL hi7 dL_law_975 ?_
  refine kL_114 C (k2) (sX12_turned (k2) hw) dL_law_976 (Nat.le_of_ble_eq_true rfl) rfl (Nat.le_of_ble_eq_true rfl) (fun v8 h9 hw => ?_)
  refine r_icmp_eq 1427 C dL_law_979 (by decide) (fun hc => ?_) (fun hc => ?_)
  · replace hw := it_t hc hw
    obtain ⟨v10, ev10⟩ : ∃ v : Int32, v = x3 + (6 : Int32) := ⟨_, rfl⟩
    replace hw := hw v10 ev10
    refine r_iinc v10 [some (.ref b), some (.ref (G.1 a1)), some (.ref (G.1 a2)), some (.int v10)] C dL_law_1427 rfl (by rw [ev10]; rfl) rfl rfl ?_
    refine r_goto 18 C dL_law_1430 (by decide) ?_
    exact hK18 _ _ hw
  · replace hw := it_f hc hw
    refine r_iconst (0) C dL_law_982 (by decide) ?_
    exact r_lawret C hL dL_law_983 (hQ _ hw)
def jL_law_984 (L : Nat) (xs : Nat → Int32) (a1 : Nat) (a2 : Nat) (x3 : Int32) (h : Hp) (K18 : Int32 → Hp → Prop) (Q : Int32 → Prop) : Prop :=
  wX11_image a1 h (fun v1 h2 => wX12_image a2 h2 (fun v3 h4 => if v1 = v3 then (∀ v5 : Int32, v5 = x3 + (6 : Int32) → (K18 v5 h4)) else (Q (0 : Int32))))
set_option maxRecDepth 20000 in
theorem tL_law_984 {G : GG} {X : XX} {kc ks b L : Nat} {xs : Nat → Int32} {a1 : Nat} {a2 : Nat} {x3 : Int32} {h : Hp}  {K18 : Int32 → Hp → Prop} {Q : Int32 → Prop} (C : Cx G RL cL_law 4 ret 1312 kc ks X) (hL : Lx G kc ks b L xs X) (hQ : ∀ v, Q v → v = 1) (k1 : kd a1 = 11) (k2 : kd a2 = 12) (hK18 : ∀ (y3 : Int32) (h' : Hp), K18 y3 h' → R0 G X kc ks (lw_Z X.2.2.2.2.2.2.2.1 #[Value.ref b] X.2.2.2.2.1) 18 [some (.ref b), some (.ref (G.1 a1)), some (.ref (G.1 a2)), some (.int y3)] [] h') (hw : jL_law_984 L xs a1 a2 x3 h K18 Q) : R0 G X kc ks (lw_Z X.2.2.2.2.2.2.2.1 #[Value.ref b] X.2.2.2.2.1) 984 [some (.ref b), some (.ref (G.1 a1)), some (.ref (G.1 a2)), some (.int x3)] [] h := by
  unfold jL_law_984 at hw
  refine r_aload_n C dL_law_984 rfl ?_
  refine kL_115 C (k1) (sX11_image (k1) hw) dL_law_985 (Nat.le_of_ble_eq_true rfl) rfl (Nat.le_of_ble_eq_true rfl) (fun v1 h2 hw => ?_)
  refine r_aload_n C dL_law_988 rfl ?_
  refine kL_118 C (k2) (sX12_image (k2) hw) dL_law_989 (Nat.le_of_ble_eq_true rfl) rfl (Nat.le_of_ble_eq_true rfl) (fun v3 h4 hw => ?_)
  refine r_icmp_eq 1427 C dL_law_992 (by decide) (fun hc => ?_) (fun hc => ?_)
  · replace hw := it_t hc hw
    obtain ⟨v5, ev5⟩ : ∃ v : Int32, v = x3 + (6 : Int32) := ⟨_, rfl⟩
    replace hw := hw v5 ev5
    refine r_iinc v5 [some (.ref b), some (.ref (G.1 a1)), some (.ref (G.1 a2)), some (.int v5)] C dL_law_1427 rfl (by rw [ev5]; rfl) rfl rfl ?_
    refine r_goto 18 C dL_law_1430 (by decide) ?_
    exact hK18 _ _ hw
  · replace hw := it_f hc hw
    refine r_iconst (0) C dL_law_995 (by decide) ?_
    exact r_lawret C hL dL_law_996 (hQ _ hw)
def jL_law_997 (L : Nat) (xs : Nat → Int32) (a1 : Nat) (a2 : Nat) (x3 : Int32) (h : Hp) (K18 : Int32 → Hp → Prop) (Q : Int32 → Prop) : Prop :=
  wX11_back a1 h (fun v1 h2 => wX12_back a2 h2 (fun v3 h4 => if v1 = v3 then (∀ v5 : Int32, v5 = x3 + (6 : Int32) → (K18 v5 h4)) else (Q (0 : Int32))))
set_option maxRecDepth 20000 in
theorem tL_law_997 {G : GG} {X : XX} {kc ks b L : Nat} {xs : Nat → Int32} {a1 : Nat} {a2 : Nat} {x3 : Int32} {h : Hp}  {K18 : Int32 → Hp → Prop} {Q : Int32 → Prop} (C : Cx G RL cL_law 4 ret 1312 kc ks X) (hL : Lx G kc ks b L xs X) (hQ : ∀ v, Q v → v = 1) (k1 : kd a1 = 11) (k2 : kd a2 = 12) (hK18 : ∀ (y3 : Int32) (h' : Hp), K18 y3 h' → R0 G X kc ks (lw_Z X.2.2.2.2.2.2.2.1 #[Value.ref b] X.2.2.2.2.1) 18 [some (.ref b), some (.ref (G.1 a1)), some (.ref (G.1 a2)), some (.int y3)] [] h') (hw : jL_law_997 L xs a1 a2 x3 h K18 Q) : R0 G X kc ks (lw_Z X.2.2.2.2.2.2.2.1 #[Value.ref b] X.2.2.2.2.1) 997 [some (.ref b), some (.ref (G.1 a1)), some (.ref (G.1 a2)), some (.int x3)] [] h := by
  unfold jL_law_997 at hw
  refine r_aload_n C dL_law_997 rfl ?_
  refine kL_119 C (k1) (sX11_back (k1) hw) dL_law_998 (Nat.le_of_ble_eq_true rfl) rfl (Nat.le_of_ble_eq_true rfl) (fun v1 h2 hw => ?_)
  refine r_aload_n C dL_law_1001 rfl ?_
  refine kL_122 C (k2) (sX12_back (k2) hw) dL_law_1002 (Nat.le_of_ble_eq_true rfl) rfl (Nat.le_of_ble_eq_true rfl) (fun v3 h4 hw => ?_)
  refine r_icmp_eq 1427 C dL_law_1005 (by decide) (fun hc => ?_) (fun hc => ?_)
  · replace hw := it_t hc hw
    obtain ⟨v5, ev5⟩ : ∃ v : Int32, v = x3 + (6 : Int32) := ⟨_, rfl⟩
    replace hw := hw v5 ev5
    refine r_iinc v5 [some (.ref b), some (.ref (G.1 a1)), some (.ref (G.1 a2)), some (.int v5)] C dL_law_1427 rfl (by rw [ev5]; rfl) rfl rfl ?_
    refine r_goto 18 C dL_law_1430 (by decide) ?_
    exact hK18 _ _ hw
  · replace hw := it_f hc hw
    refine r_iconst (0) C dL_law_1008 (by decide) ?_
    exact r_lawret C hL dL_law_1009 (hQ _ hw)
def jL_law_1010 (L : Nat) (xs : Nat → Int32) (a1 : Nat) (a2 : Nat) (x3 : Int32) (h : Hp) (K18 : Int32 → Hp → Prop) (Q : Int32 → Prop) : Prop :=
  wX11_undo a1 h (fun v1 h2 => wX12_undo a2 h2 (fun v3 h4 => if v1 = v3 then (∀ v5 : Int32, v5 = x3 + (6 : Int32) → (K18 v5 h4)) else (Q (0 : Int32))))
set_option maxRecDepth 20000 in
theorem tL_law_1010 {G : GG} {X : XX} {kc ks b L : Nat} {xs : Nat → Int32} {a1 : Nat} {a2 : Nat} {x3 : Int32} {h : Hp}  {K18 : Int32 → Hp → Prop} {Q : Int32 → Prop} (C : Cx G RL cL_law 4 ret 1312 kc ks X) (hL : Lx G kc ks b L xs X) (hQ : ∀ v, Q v → v = 1) (k1 : kd a1 = 11) (k2 : kd a2 = 12) (hK18 : ∀ (y3 : Int32) (h' : Hp), K18 y3 h' → R0 G X kc ks (lw_Z X.2.2.2.2.2.2.2.1 #[Value.ref b] X.2.2.2.2.1) 18 [some (.ref b), some (.ref (G.1 a1)), some (.ref (G.1 a2)), some (.int y3)] [] h') (hw : jL_law_1010 L xs a1 a2 x3 h K18 Q) : R0 G X kc ks (lw_Z X.2.2.2.2.2.2.2.1 #[Value.ref b] X.2.2.2.2.1) 1010 [some (.ref b), some (.ref (G.1 a1)), some (.ref (G.1 a2)), some (.int x3)] [] h := by
  unfold jL_law_1010 at hw
  refine r_aload_n C dL_law_1010 rfl ?_
  refine kL_123 C (k1) (sX11_undo (k1) hw) dL_law_1011 (Nat.le_of_ble_eq_true rfl) rfl (Nat.le_of_ble_eq_true rfl) (fun v1 h2 hw => ?_)
  refine r_aload_n C dL_law_1014 rfl ?_
  refine kL_126 C (k2) (sX12_undo (k2) hw) dL_law_1015 (Nat.le_of_ble_eq_true rfl) rfl (Nat.le_of_ble_eq_true rfl) (fun v3 h4 hw => ?_)
  refine r_icmp_eq 1427 C dL_law_1018 (by decide) (fun hc => ?_) (fun hc => ?_)
  · replace hw := it_t hc hw
    obtain ⟨v5, ev5⟩ : ∃ v : Int32, v = x3 + (6 : Int32) := ⟨_, rfl⟩
    replace hw := hw v5 ev5
    refine r_iinc v5 [some (.ref b), some (.ref (G.1 a1)), some (.ref (G.1 a2)), some (.int v5)] C dL_law_1427 rfl (by rw [ev5]; rfl) rfl rfl ?_
    refine r_goto 18 C dL_law_1430 (by decide) ?_
    exact hK18 _ _ hw
  · replace hw := it_f hc hw
    refine r_iconst (0) C dL_law_1021 (by decide) ?_
    exact r_lawret C hL dL_law_1022 (hQ _ hw)
def jL_law_1023 (L : Nat) (xs : Nat → Int32) (a1 : Nat) (a2 : Nat) (x3 : Int32) (h : Hp) (K18 : Int32 → Hp → Prop) (Q : Int32 → Prop) : Prop :=
  wX11_redo a1 h (fun v1 h2 => wX12_redo a2 h2 (fun v3 h4 => if v1 = v3 then (∀ v5 : Int32, v5 = x3 + (6 : Int32) → (K18 v5 h4)) else (Q (0 : Int32))))
set_option maxRecDepth 20000 in
theorem tL_law_1023 {G : GG} {X : XX} {kc ks b L : Nat} {xs : Nat → Int32} {a1 : Nat} {a2 : Nat} {x3 : Int32} {h : Hp}  {K18 : Int32 → Hp → Prop} {Q : Int32 → Prop} (C : Cx G RL cL_law 4 ret 1312 kc ks X) (hL : Lx G kc ks b L xs X) (hQ : ∀ v, Q v → v = 1) (k1 : kd a1 = 11) (k2 : kd a2 = 12) (hK18 : ∀ (y3 : Int32) (h' : Hp), K18 y3 h' → R0 G X kc ks (lw_Z X.2.2.2.2.2.2.2.1 #[Value.ref b] X.2.2.2.2.1) 18 [some (.ref b), some (.ref (G.1 a1)), some (.ref (G.1 a2)), some (.int y3)] [] h') (hw : jL_law_1023 L xs a1 a2 x3 h K18 Q) : R0 G X kc ks (lw_Z X.2.2.2.2.2.2.2.1 #[Value.ref b] X.2.2.2.2.1) 1023 [some (.ref b), some (.ref (G.1 a1)), some (.ref (G.1 a2)), some (.int x3)] [] h := by
  unfold jL_law_1023 at hw
  refine r_aload_n C dL_law_1023 rfl ?_
  refine kL_127 C (k1) (sX11_redo (k1) hw) dL_law_1024 (Nat.le_of_ble_eq_true rfl) rfl (Nat.le_of_ble_eq_true rfl) (fun v1 h2 hw => ?_)
  refine r_aload_n C dL_law_1027 rfl ?_
  refine kL_130 C (k2) (sX12_redo (k2) hw) dL_law_1028 (Nat.le_of_ble_eq_true rfl) rfl (Nat.le_of_ble_eq_true rfl) (fun v3 h4 hw => ?_)
  refine r_icmp_eq 1427 C dL_law_1031 (by decide) (fun hc => ?_) (fun hc => ?_)
  · replace hw := it_t hc hw
    obtain ⟨v5, ev5⟩ : ∃ v : Int32, v = x3 + (6 : Int32) := ⟨_, rfl⟩
    replace hw := hw v5 ev5
    refine r_iinc v5 [some (.ref b), some (.ref (G.1 a1)), some (.ref (G.1 a2)), some (.int v5)] C dL_law_1427 rfl (by rw [ev5]; rfl) rfl rfl ?_
    refine r_goto 18 C dL_law_1430 (by decide) ?_
    exact hK18 _ _ hw
  · replace hw := it_f hc hw
    refine r_iconst (0) C dL_law_1034 (by decide) ?_
    exact r_lawret C hL dL_law_1035 (hQ _ hw)
def jL_law_1036 (L : Nat) (xs : Nat → Int32) (a1 : Nat) (a2 : Nat) (x3 : Int32) (h : Hp) (K18 : Int32 → Hp → Prop) (Q : Int32 → Prop) : Prop :=
  vp_in (x3 + (1 : Int32)) L ∧ (wX11_body a1 (xs (x3 + (1 : Int32)).toNatClampNeg) h (fun v2 h3 => vp_in (x3 + (1 : Int32)) L ∧ (wX12_body a2 (xs (x3 + (1 : Int32)).toNatClampNeg) h3 (fun v5 h6 => if v2 = v5 then (∀ v7 : Int32, v7 = x3 + (6 : Int32) → (K18 v7 h6)) else (Q (0 : Int32))))))
set_option maxRecDepth 20000 in
theorem tL_law_1036 {G : GG} {X : XX} {kc ks b L : Nat} {xs : Nat → Int32} {a1 : Nat} {a2 : Nat} {x3 : Int32} {h : Hp}  {K18 : Int32 → Hp → Prop} {Q : Int32 → Prop} (C : Cx G RL cL_law 4 ret 1312 kc ks X) (hL : Lx G kc ks b L xs X) (hQ : ∀ v, Q v → v = 1) (k1 : kd a1 = 11) (k2 : kd a2 = 12) (hK18 : ∀ (y3 : Int32) (h' : Hp), K18 y3 h' → R0 G X kc ks (lw_Z X.2.2.2.2.2.2.2.1 #[Value.ref b] X.2.2.2.2.1) 18 [some (.ref b), some (.ref (G.1 a1)), some (.ref (G.1 a2)), some (.int y3)] [] h') (hw : jL_law_1036 L xs a1 a2 x3 h K18 Q) : R0 G X kc ks (lw_Z X.2.2.2.2.2.2.2.1 #[Value.ref b] X.2.2.2.2.1) 1036 [some (.ref b), some (.ref (G.1 a1)), some (.ref (G.1 a2)), some (.int x3)] [] h := by
  unfold jL_law_1036 at hw
  refine r_aload_n C dL_law_1036 rfl ?_
  refine r_aload_n C dL_law_1037 rfl ?_
  refine r_iload_n C dL_law_1038 rfl ?_
  refine r_iconst (1) C dL_law_1039 (by decide) ?_
  refine r_iadd C dL_law_1040 ?_
  obtain ⟨hi1, hw⟩ := hw
  refine r_sld C hL hi1 dL_law_1041 ?_
  refine kL_131 C (k1) (sX11_body (k1) hw) dL_law_1042 (Nat.le_of_ble_eq_true rfl) rfl (Nat.le_of_ble_eq_true rfl) (fun v2 h3 hw => ?_)
  refine r_aload_n C dL_law_1045 rfl ?_
  refine r_aload_n C dL_law_1046 rfl ?_
  refine r_iload_n C dL_law_1047 rfl ?_
  refine r_iconst (1) C dL_law_1048 (by decide) ?_
  refine r_iadd C dL_law_1049 ?_
  obtain ⟨hi4, hw⟩ := hw
  refine r_sld C hL hi4 dL_law_1050 ?_
  refine kL_134 C (k2) (sX12_body (k2) hw) dL_law_1051 (Nat.le_of_ble_eq_true rfl) rfl (Nat.le_of_ble_eq_true rfl) (fun v5 h6 hw => ?_)
  refine r_icmp_eq 1427 C dL_law_1054 (by decide) (fun hc => ?_) (fun hc => ?_)
  · replace hw := it_t hc hw
    obtain ⟨v7, ev7⟩ : ∃ v : Int32, v = x3 + (6 : Int32) := ⟨_, rfl⟩
    replace hw := hw v7 ev7
    refine r_iinc v7 [some (.ref b), some (.ref (G.1 a1)), some (.ref (G.1 a2)), some (.int v7)] C dL_law_1427 rfl (by rw [ev7]; rfl) rfl rfl ?_
    refine r_goto 18 C dL_law_1430 (by decide) ?_
    exact hK18 _ _ hw
  · replace hw := it_f hc hw
    refine r_iconst (0) C dL_law_1057 (by decide) ?_
    exact r_lawret C hL dL_law_1058 (hQ _ hw)
def jL_law_1059 (L : Nat) (xs : Nat → Int32) (a1 : Nat) (a2 : Nat) (x3 : Int32) (h : Hp) (K18 : Int32 → Hp → Prop) (Q : Int32 → Prop) : Prop :=
  vp_in (x3 + (1 : Int32)) L ∧ (vp_in (x3 + (2 : Int32)) L ∧ (vp_in (x3 + (3 : Int32)) L ∧ (wX11_act a1 (xs (x3 + (1 : Int32)).toNatClampNeg) (xs (x3 + (2 : Int32)).toNatClampNeg) (xs (x3 + (3 : Int32)).toNatClampNeg) h (fun v4 h5 => vp_in (x3 + (1 : Int32)) L ∧ (vp_in (x3 + (2 : Int32)) L ∧ (vp_in (x3 + (3 : Int32)) L ∧ (wX12_act a2 (xs (x3 + (1 : Int32)).toNatClampNeg) (xs (x3 + (2 : Int32)).toNatClampNeg) (xs (x3 + (3 : Int32)).toNatClampNeg) h5 (fun v9 h10 => if v4 = v9 then (∀ v11 : Int32, v11 = x3 + (6 : Int32) → (K18 v11 h10)) else (Q (0 : Int32))))))))))
set_option maxRecDepth 20000 in
theorem tL_law_1059 {G : GG} {X : XX} {kc ks b L : Nat} {xs : Nat → Int32} {a1 : Nat} {a2 : Nat} {x3 : Int32} {h : Hp}  {K18 : Int32 → Hp → Prop} {Q : Int32 → Prop} (C : Cx G RL cL_law 4 ret 1312 kc ks X) (hL : Lx G kc ks b L xs X) (hQ : ∀ v, Q v → v = 1) (k1 : kd a1 = 11) (k2 : kd a2 = 12) (hK18 : ∀ (y3 : Int32) (h' : Hp), K18 y3 h' → R0 G X kc ks (lw_Z X.2.2.2.2.2.2.2.1 #[Value.ref b] X.2.2.2.2.1) 18 [some (.ref b), some (.ref (G.1 a1)), some (.ref (G.1 a2)), some (.int y3)] [] h') (hw : jL_law_1059 L xs a1 a2 x3 h K18 Q) : R0 G X kc ks (lw_Z X.2.2.2.2.2.2.2.1 #[Value.ref b] X.2.2.2.2.1) 1059 [some (.ref b), some (.ref (G.1 a1)), some (.ref (G.1 a2)), some (.int x3)] [] h := by
  unfold jL_law_1059 at hw
  refine r_aload_n C dL_law_1059 rfl ?_
  refine r_aload_n C dL_law_1060 rfl ?_
  refine r_iload_n C dL_law_1061 rfl ?_
  refine r_iconst (1) C dL_law_1062 (by decide) ?_
  refine r_iadd C dL_law_1063 ?_
  obtain ⟨hi1, hw⟩ := hw
  refine r_sld C hL hi1 dL_law_1064 ?_
  refine r_aload_n C dL_law_1065 rfl ?_
  refine r_iload_n C dL_law_1066 rfl ?_
  refine r_iconst (2) C dL_law_1067 (by decide) ?_
  refine r_iadd C dL_law_1068 ?_
  obtain ⟨hi2, hw⟩ := hw
  refine r_sld C hL hi2 dL_law_1069 ?_
  refine r_aload_n C dL_law_1070 rfl ?_
  refine r_iload_n C dL_law_1071 rfl ?_
  refine r_iconst (3) C dL_law_1072 (by decide) ?_
  refine r_iadd C dL_law_1073 ?_
  obtain ⟨hi3, hw⟩ := hw
  refine r_sld C hL hi3 dL_law_1074 ?_
  refine kL_135 C (k1) (sX11_act (k1) hw) dL_law_1075 (Nat.le_of_ble_eq_true rfl) rfl (Nat.le_of_ble_eq_true rfl) (fun v4 h5 hw => ?_)
  refine r_aload_n C dL_law_1078 rfl ?_
  refine r_aload_n C dL_law_1079 rfl ?_
  refine r_iload_n C dL_law_1080 rfl ?_
  refine r_iconst (1) C dL_law_1081 (by decide) ?_
  refine r_iadd C dL_law_1082 ?_
  obtain ⟨hi6, hw⟩ := hw
  refine r_sld C hL hi6 dL_law_1083 ?_
  refine r_aload_n C dL_law_1084 rfl ?_
  refine r_iload_n C dL_law_1085 rfl ?_
  refine r_iconst (2) C dL_law_1086 (by decide) ?_
  refine r_iadd C dL_law_1087 ?_
  obtain ⟨hi7, hw⟩ := hw
  refine r_sld C hL hi7 dL_law_1088 ?_
  refine r_aload_n C dL_law_1089 rfl ?_
  refine r_iload_n C dL_law_1090 rfl ?_
  refine r_iconst (3) C dL_law_1091 (by decide) ?_
  refine r_iadd C dL_law_1092 ?_
  obtain ⟨hi8, hw⟩ := hw
  refine r_sld C hL hi8 dL_law_1093 ?_
  refine kL_138 C (k2) (sX12_act (k2) hw) dL_law_1094 (Nat.le_of_ble_eq_true rfl) rfl (Nat.le_of_ble_eq_true rfl) (fun v9 h10 hw => ?_)
  refine r_icmp_eq 1427 C dL_law_1097 (by decide) (fun hc => ?_) (fun hc => ?_)
  · replace hw := it_t hc hw
    obtain ⟨v11, ev11⟩ : ∃ v : Int32, v = x3 + (6 : Int32) := ⟨_, rfl⟩
    replace hw := hw v11 ev11
    refine r_iinc v11 [some (.ref b), some (.ref (G.1 a1)), some (.ref (G.1 a2)), some (.int v11)] C dL_law_1427 rfl (by rw [ev11]; rfl) rfl rfl ?_
    refine r_goto 18 C dL_law_1430 (by decide) ?_
    exact hK18 _ _ hw
  · replace hw := it_f hc hw
    refine r_iconst (0) C dL_law_1100 (by decide) ?_
    exact r_lawret C hL dL_law_1101 (hQ _ hw)
def jL_law_1102 (L : Nat) (xs : Nat → Int32) (a1 : Nat) (a2 : Nat) (x3 : Int32) (h : Hp) (K18 : Int32 → Hp → Prop) (Q : Int32 → Prop) : Prop :=
  vp_in (x3 + (1 : Int32)) L ∧ (wX11_trace a1 (xs (x3 + (1 : Int32)).toNatClampNeg) h (fun v2 => vp_in (x3 + (1 : Int32)) L ∧ (wX12_trace a2 (xs (x3 + (1 : Int32)).toNatClampNeg) h (fun v4 => if v2 = v4 then (∀ v5 : Int32, v5 = x3 + (6 : Int32) → (K18 v5 h)) else (Q (0 : Int32))))))
set_option maxRecDepth 20000 in
theorem tL_law_1102 {G : GG} {X : XX} {kc ks b L : Nat} {xs : Nat → Int32} {a1 : Nat} {a2 : Nat} {x3 : Int32} {h : Hp}  {K18 : Int32 → Hp → Prop} {Q : Int32 → Prop} (C : Cx G RL cL_law 4 ret 1312 kc ks X) (hL : Lx G kc ks b L xs X) (hQ : ∀ v, Q v → v = 1) (k1 : kd a1 = 11) (k2 : kd a2 = 12) (hK18 : ∀ (y3 : Int32) (h' : Hp), K18 y3 h' → R0 G X kc ks (lw_Z X.2.2.2.2.2.2.2.1 #[Value.ref b] X.2.2.2.2.1) 18 [some (.ref b), some (.ref (G.1 a1)), some (.ref (G.1 a2)), some (.int y3)] [] h') (hw : jL_law_1102 L xs a1 a2 x3 h K18 Q) : R0 G X kc ks (lw_Z X.2.2.2.2.2.2.2.1 #[Value.ref b] X.2.2.2.2.1) 1102 [some (.ref b), some (.ref (G.1 a1)), some (.ref (G.1 a2)), some (.int x3)] [] h := by
  unfold jL_law_1102 at hw
  refine r_aload_n C dL_law_1102 rfl ?_
  refine r_aload_n C dL_law_1103 rfl ?_
  refine r_iload_n C dL_law_1104 rfl ?_
  refine r_iconst (1) C dL_law_1105 (by decide) ?_
  refine r_iadd C dL_law_1106 ?_
  obtain ⟨hi1, hw⟩ := hw
  refine r_sld C hL hi1 dL_law_1107 ?_
  refine kL_139 C (k1) (sX11_trace (k1) hw) dL_law_1108 (Nat.le_of_ble_eq_true rfl) rfl (Nat.le_of_ble_eq_true rfl) (fun v2 hw => ?_)
  refine r_aload_n C dL_law_1111 rfl ?_
  refine r_aload_n C dL_law_1112 rfl ?_
  refine r_iload_n C dL_law_1113 rfl ?_
  refine r_iconst (1) C dL_law_1114 (by decide) ?_
  refine r_iadd C dL_law_1115 ?_
  obtain ⟨hi3, hw⟩ := hw
  refine r_sld C hL hi3 dL_law_1116 ?_
  refine kL_142 C (k2) (sX12_trace (k2) hw) dL_law_1117 (Nat.le_of_ble_eq_true rfl) rfl (Nat.le_of_ble_eq_true rfl) (fun v4 hw => ?_)
  refine r_icmp_eq 1427 C dL_law_1120 (by decide) (fun hc => ?_) (fun hc => ?_)
  · replace hw := it_t hc hw
    obtain ⟨v5, ev5⟩ : ∃ v : Int32, v = x3 + (6 : Int32) := ⟨_, rfl⟩
    replace hw := hw v5 ev5
    refine r_iinc v5 [some (.ref b), some (.ref (G.1 a1)), some (.ref (G.1 a2)), some (.int v5)] C dL_law_1427 rfl (by rw [ev5]; rfl) rfl rfl ?_
    refine r_goto 18 C dL_law_1430 (by decide) ?_
    exact hK18 _ _ hw
  · replace hw := it_f hc hw
    refine r_iconst (0) C dL_law_1123 (by decide) ?_
    exact r_lawret C hL dL_law_1124 (hQ _ hw)
def jL_law_1125 (L : Nat) (xs : Nat → Int32) (a1 : Nat) (a2 : Nat) (x3 : Int32) (h : Hp) (K18 : Int32 → Hp → Prop) (Q : Int32 → Prop) : Prop :=
  vp_in (x3 + (1 : Int32)) L ∧ (vp_in (x3 + (2 : Int32)) L ∧ (wX11_keep a1 (xs (x3 + (1 : Int32)).toNatClampNeg) (xs (x3 + (2 : Int32)).toNatClampNeg) h (fun v3 h4 => vp_in (x3 + (1 : Int32)) L ∧ (vp_in (x3 + (2 : Int32)) L ∧ (wX12_keep a2 (xs (x3 + (1 : Int32)).toNatClampNeg) (xs (x3 + (2 : Int32)).toNatClampNeg) h4 (fun v7 h8 => if v3 = v7 then (∀ v9 : Int32, v9 = x3 + (6 : Int32) → (K18 v9 h8)) else (Q (0 : Int32))))))))
set_option maxRecDepth 20000 in
theorem tL_law_1125 {G : GG} {X : XX} {kc ks b L : Nat} {xs : Nat → Int32} {a1 : Nat} {a2 : Nat} {x3 : Int32} {h : Hp}  {K18 : Int32 → Hp → Prop} {Q : Int32 → Prop} (C : Cx G RL cL_law 4 ret 1312 kc ks X) (hL : Lx G kc ks b L xs X) (hQ : ∀ v, Q v → v = 1) (k1 : kd a1 = 11) (k2 : kd a2 = 12) (hK18 : ∀ (y3 : Int32) (h' : Hp), K18 y3 h' → R0 G X kc ks (lw_Z X.2.2.2.2.2.2.2.1 #[Value.ref b] X.2.2.2.2.1) 18 [some (.ref b), some (.ref (G.1 a1)), some (.ref (G.1 a2)), some (.int y3)] [] h') (hw : jL_law_1125 L xs a1 a2 x3 h K18 Q) : R0 G X kc ks (lw_Z X.2.2.2.2.2.2.2.1 #[Value.ref b] X.2.2.2.2.1) 1125 [some (.ref b), some (.ref (G.1 a1)), some (.ref (G.1 a2)), some (.int x3)] [] h := by
  unfold jL_law_1125 at hw
  refine r_aload_n C dL_law_1125 rfl ?_
  refine r_aload_n C dL_law_1126 rfl ?_
  refine r_iload_n C dL_law_1127 rfl ?_
  refine r_iconst (1) C dL_law_1128 (by decide) ?_
  refine r_iadd C dL_law_1129 ?_
  obtain ⟨hi1, hw⟩ := hw
  refine r_sld C hL hi1 dL_law_1130 ?_
  refine r_aload_n C dL_law_1131 rfl ?_
  refine r_iload_n C dL_law_1132 rfl ?_
  refine r_iconst (2) C dL_law_1133 (by decide) ?_
  refine r_iadd C dL_law_1134 ?_
  obtain ⟨hi2, hw⟩ := hw
  refine r_sld C hL hi2 dL_law_1135 ?_
  refine kL_143 C (k1) (sX11_keep (k1) hw) dL_law_1136 (Nat.le_of_ble_eq_true rfl) rfl (Nat.le_of_ble_eq_true rfl) (fun v3 h4 hw => ?_)
  refine r_aload_n C dL_law_1139 rfl ?_
  refine r_aload_n C dL_law_1140 rfl ?_
  refine r_iload_n C dL_law_1141 rfl ?_
  refine r_iconst (1) C dL_law_1142 (by decide) ?_
  refine r_iadd C dL_law_1143 ?_
  obtain ⟨hi5, hw⟩ := hw
  refine r_sld C hL hi5 dL_law_1144 ?_
  refine r_aload_n C dL_law_1145 rfl ?_
  refine r_iload_n C dL_law_1146 rfl ?_
  refine r_iconst (2) C dL_law_1147 (by decide) ?_
  refine r_iadd C dL_law_1148 ?_
  obtain ⟨hi6, hw⟩ := hw
  refine r_sld C hL hi6 dL_law_1149 ?_
  refine kL_146 C (k2) (sX12_keep (k2) hw) dL_law_1150 (Nat.le_of_ble_eq_true rfl) rfl (Nat.le_of_ble_eq_true rfl) (fun v7 h8 hw => ?_)
  refine r_icmp_eq 1427 C dL_law_1153 (by decide) (fun hc => ?_) (fun hc => ?_)
  · replace hw := it_t hc hw
    obtain ⟨v9, ev9⟩ : ∃ v : Int32, v = x3 + (6 : Int32) := ⟨_, rfl⟩
    replace hw := hw v9 ev9
    refine r_iinc v9 [some (.ref b), some (.ref (G.1 a1)), some (.ref (G.1 a2)), some (.int v9)] C dL_law_1427 rfl (by rw [ev9]; rfl) rfl rfl ?_
    refine r_goto 18 C dL_law_1430 (by decide) ?_
    exact hK18 _ _ hw
  · replace hw := it_f hc hw
    refine r_iconst (0) C dL_law_1156 (by decide) ?_
    exact r_lawret C hL dL_law_1157 (hQ _ hw)
def jL_law_1158 (L : Nat) (xs : Nat → Int32) (a1 : Nat) (a2 : Nat) (x3 : Int32) (h : Hp) (K18 : Int32 → Hp → Prop) (Q : Int32 → Prop) : Prop :=
  vp_in (x3 + (1 : Int32)) L ∧ (vp_in (x3 + (2 : Int32)) L ∧ (vp_in (x3 + (3 : Int32)) L ∧ (wX11_row a1 (xs (x3 + (1 : Int32)).toNatClampNeg) (xs (x3 + (2 : Int32)).toNatClampNeg) (xs (x3 + (3 : Int32)).toNatClampNeg) h (fun v4 h5 => vp_in (x3 + (1 : Int32)) L ∧ (vp_in (x3 + (2 : Int32)) L ∧ (vp_in (x3 + (3 : Int32)) L ∧ (wX12_row a2 (xs (x3 + (1 : Int32)).toNatClampNeg) (xs (x3 + (2 : Int32)).toNatClampNeg) (xs (x3 + (3 : Int32)).toNatClampNeg) h5 (fun v9 h10 => if v4 = v9 then (∀ v11 : Int32, v11 = x3 + (6 : Int32) → (K18 v11 h10)) else (Q (0 : Int32))))))))))
set_option maxRecDepth 20000 in
theorem tL_law_1158 {G : GG} {X : XX} {kc ks b L : Nat} {xs : Nat → Int32} {a1 : Nat} {a2 : Nat} {x3 : Int32} {h : Hp}  {K18 : Int32 → Hp → Prop} {Q : Int32 → Prop} (C : Cx G RL cL_law 4 ret 1312 kc ks X) (hL : Lx G kc ks b L xs X) (hQ : ∀ v, Q v → v = 1) (k1 : kd a1 = 11) (k2 : kd a2 = 12) (hK18 : ∀ (y3 : Int32) (h' : Hp), K18 y3 h' → R0 G X kc ks (lw_Z X.2.2.2.2.2.2.2.1 #[Value.ref b] X.2.2.2.2.1) 18 [some (.ref b), some (.ref (G.1 a1)), some (.ref (G.1 a2)), some (.int y3)] [] h') (hw : jL_law_1158 L xs a1 a2 x3 h K18 Q) : R0 G X kc ks (lw_Z X.2.2.2.2.2.2.2.1 #[Value.ref b] X.2.2.2.2.1) 1158 [some (.ref b), some (.ref (G.1 a1)), some (.ref (G.1 a2)), some (.int x3)] [] h := by
  unfold jL_law_1158 at hw
  refine r_aload_n C dL_law_1158 rfl ?_
  refine r_aload_n C dL_law_1159 rfl ?_
  refine r_iload_n C dL_law_1160 rfl ?_
  refine r_iconst (1) C dL_law_1161 (by decide) ?_
  refine r_iadd C dL_law_1162 ?_
  obtain ⟨hi1, hw⟩ := hw
  refine r_sld C hL hi1 dL_law_1163 ?_
  refine r_aload_n C dL_law_1164 rfl ?_
  refine r_iload_n C dL_law_1165 rfl ?_
  refine r_iconst (2) C dL_law_1166 (by decide) ?_
  refine r_iadd C dL_law_1167 ?_
  obtain ⟨hi2, hw⟩ := hw
  refine r_sld C hL hi2 dL_law_1168 ?_
  refine r_aload_n C dL_law_1169 rfl ?_
  refine r_iload_n C dL_law_1170 rfl ?_
  refine r_iconst (3) C dL_law_1171 (by decide) ?_
  refine r_iadd C dL_law_1172 ?_
  obtain ⟨hi3, hw⟩ := hw
  refine r_sld C hL hi3 dL_law_1173 ?_
  refine kL_147 C (k1) (sX11_row (k1) hw) dL_law_1174 (Nat.le_of_ble_eq_true rfl) rfl (Nat.le_of_ble_eq_true rfl) (fun v4 h5 hw => ?_)
  refine r_aload_n C dL_law_1177 rfl ?_
  refine r_aload_n C dL_law_1178 rfl ?_
  refine r_iload_n C dL_law_1179 rfl ?_
  refine r_iconst (1) C dL_law_1180 (by decide) ?_
  refine r_iadd C dL_law_1181 ?_
  obtain ⟨hi6, hw⟩ := hw
  refine r_sld C hL hi6 dL_law_1182 ?_
  refine r_aload_n C dL_law_1183 rfl ?_
  refine r_iload_n C dL_law_1184 rfl ?_
  refine r_iconst (2) C dL_law_1185 (by decide) ?_
  refine r_iadd C dL_law_1186 ?_
  obtain ⟨hi7, hw⟩ := hw
  refine r_sld C hL hi7 dL_law_1187 ?_
  refine r_aload_n C dL_law_1188 rfl ?_
  refine r_iload_n C dL_law_1189 rfl ?_
  refine r_iconst (3) C dL_law_1190 (by decide) ?_
  refine r_iadd C dL_law_1191 ?_
  obtain ⟨hi8, hw⟩ := hw
  refine r_sld C hL hi8 dL_law_1192 ?_
  refine kL_150 C (k2) (sX12_row (k2) hw) dL_law_1193 (Nat.le_of_ble_eq_true rfl) rfl (Nat.le_of_ble_eq_true rfl) (fun v9 h10 hw => ?_)
  refine r_icmp_eq 1427 C dL_law_1196 (by decide) (fun hc => ?_) (fun hc => ?_)
  · replace hw := it_t hc hw
    obtain ⟨v11, ev11⟩ : ∃ v : Int32, v = x3 + (6 : Int32) := ⟨_, rfl⟩
    replace hw := hw v11 ev11
    refine r_iinc v11 [some (.ref b), some (.ref (G.1 a1)), some (.ref (G.1 a2)), some (.int v11)] C dL_law_1427 rfl (by rw [ev11]; rfl) rfl rfl ?_
    refine r_goto 18 C dL_law_1430 (by decide) ?_
    exact hK18 _ _ hw
  · replace hw := it_f hc hw
    refine r_iconst (0) C dL_law_1199 (by decide) ?_
    exact r_lawret C hL dL_law_1200 (hQ _ hw)
def jL_law_1201 (L : Nat) (xs : Nat → Int32) (a1 : Nat) (a2 : Nat) (x3 : Int32) (h : Hp) (K18 : Int32 → Hp → Prop) (Q : Int32 → Prop) : Prop :=
  vp_in (x3 + (1 : Int32)) L ∧ (vp_in (x3 + (2 : Int32)) L ∧ (vp_in (x3 + (3 : Int32)) L ∧ (vp_in (x3 + (4 : Int32)) L ∧ (wX11_put a1 (xs (x3 + (1 : Int32)).toNatClampNeg) (xs (x3 + (2 : Int32)).toNatClampNeg) ((shlL (xs (x3 + (3 : Int32)).toNatClampNeg).toInt64 (32 : Int32)) ||| ((xs (x3 + (4 : Int32)).toNatClampNeg).toInt64 &&& (4294967295 : Int64))) h (fun v5 h6 => vp_in (x3 + (1 : Int32)) L ∧ (vp_in (x3 + (2 : Int32)) L ∧ (vp_in (x3 + (3 : Int32)) L ∧ (vp_in (x3 + (4 : Int32)) L ∧ (wX12_put a2 (xs (x3 + (1 : Int32)).toNatClampNeg) (xs (x3 + (2 : Int32)).toNatClampNeg) ((shlL (xs (x3 + (3 : Int32)).toNatClampNeg).toInt64 (32 : Int32)) ||| ((xs (x3 + (4 : Int32)).toNatClampNeg).toInt64 &&& (4294967295 : Int64))) h6 (fun v11 h12 => if v5 = v11 then (∀ v13 : Int32, v13 = x3 + (6 : Int32) → (K18 v13 h12)) else (Q (0 : Int32))))))))))))
set_option maxRecDepth 20000 in
theorem tL_law_1201 {G : GG} {X : XX} {kc ks b L : Nat} {xs : Nat → Int32} {a1 : Nat} {a2 : Nat} {x3 : Int32} {h : Hp}  {K18 : Int32 → Hp → Prop} {Q : Int32 → Prop} (C : Cx G RL cL_law 4 ret 1312 kc ks X) (hL : Lx G kc ks b L xs X) (hQ : ∀ v, Q v → v = 1) (k1 : kd a1 = 11) (k2 : kd a2 = 12) (hK18 : ∀ (y3 : Int32) (h' : Hp), K18 y3 h' → R0 G X kc ks (lw_Z X.2.2.2.2.2.2.2.1 #[Value.ref b] X.2.2.2.2.1) 18 [some (.ref b), some (.ref (G.1 a1)), some (.ref (G.1 a2)), some (.int y3)] [] h') (hw : jL_law_1201 L xs a1 a2 x3 h K18 Q) : R0 G X kc ks (lw_Z X.2.2.2.2.2.2.2.1 #[Value.ref b] X.2.2.2.2.1) 1201 [some (.ref b), some (.ref (G.1 a1)), some (.ref (G.1 a2)), some (.int x3)] [] h := by
  unfold jL_law_1201 at hw
  refine r_aload_n C dL_law_1201 rfl ?_
  refine r_aload_n C dL_law_1202 rfl ?_
  refine r_iload_n C dL_law_1203 rfl ?_
  refine r_iconst (1) C dL_law_1204 (by decide) ?_
  refine r_iadd C dL_law_1205 ?_
  obtain ⟨hi1, hw⟩ := hw
  refine r_sld C hL hi1 dL_law_1206 ?_
  refine r_aload_n C dL_law_1207 rfl ?_
  refine r_iload_n C dL_law_1208 rfl ?_
  refine r_iconst (2) C dL_law_1209 (by decide) ?_
  refine r_iadd C dL_law_1210 ?_
  obtain ⟨hi2, hw⟩ := hw
  refine r_sld C hL hi2 dL_law_1211 ?_
  refine r_aload_n C dL_law_1212 rfl ?_
  refine r_iload_n C dL_law_1213 rfl ?_
  refine r_iconst (3) C dL_law_1214 (by decide) ?_
  refine r_iadd C dL_law_1215 ?_
  obtain ⟨hi3, hw⟩ := hw
  refine r_sld C hL hi3 dL_law_1216 ?_
  refine r_i2l C dL_law_1217 ?_
  refine r_bipush (32) C dL_law_1218 (by decide) ?_
  refine r_lshl C dL_law_1220 ?_
  refine r_aload_n C dL_law_1221 rfl ?_
  refine r_iload_n C dL_law_1222 rfl ?_
  refine r_iconst (4) C dL_law_1223 (by decide) ?_
  refine r_iadd C dL_law_1224 ?_
  obtain ⟨hi4, hw⟩ := hw
  refine r_sld C hL hi4 dL_law_1225 ?_
  refine r_i2l C dL_law_1226 ?_
  refine r_ldc2_w (4294967295) C wd1651 dL_law_1227 ?_
  refine r_land C dL_law_1230 ?_
  refine r_lor C dL_law_1231 ?_
  refine kL_153 C (k1) (sX11_put (k1) hw) dL_law_1232 (Nat.le_of_ble_eq_true rfl) rfl (Nat.le_of_ble_eq_true rfl) (fun v5 h6 hw => ?_)
  refine r_aload_n C dL_law_1235 rfl ?_
  refine r_aload_n C dL_law_1236 rfl ?_
  refine r_iload_n C dL_law_1237 rfl ?_
  refine r_iconst (1) C dL_law_1238 (by decide) ?_
  refine r_iadd C dL_law_1239 ?_
  obtain ⟨hi7, hw⟩ := hw
  refine r_sld C hL hi7 dL_law_1240 ?_
  refine r_aload_n C dL_law_1241 rfl ?_
  refine r_iload_n C dL_law_1242 rfl ?_
  refine r_iconst (2) C dL_law_1243 (by decide) ?_
  refine r_iadd C dL_law_1244 ?_
  obtain ⟨hi8, hw⟩ := hw
  refine r_sld C hL hi8 dL_law_1245 ?_
  refine r_aload_n C dL_law_1246 rfl ?_
  refine r_iload_n C dL_law_1247 rfl ?_
  refine r_iconst (3) C dL_law_1248 (by decide) ?_
  refine r_iadd C dL_law_1249 ?_
  obtain ⟨hi9, hw⟩ := hw
  refine r_sld C hL hi9 dL_law_1250 ?_
  refine r_i2l C dL_law_1251 ?_
  refine r_bipush (32) C dL_law_1252 (by decide) ?_
  refine r_lshl C dL_law_1254 ?_
  refine r_aload_n C dL_law_1255 rfl ?_
  refine r_iload_n C dL_law_1256 rfl ?_
  refine r_iconst (4) C dL_law_1257 (by decide) ?_
  refine r_iadd C dL_law_1258 ?_
  obtain ⟨hi10, hw⟩ := hw
  refine r_sld C hL hi10 dL_law_1259 ?_
  refine r_i2l C dL_law_1260 ?_
  refine r_ldc2_w (4294967295) C wd1651 dL_law_1261 ?_
  refine r_land C dL_law_1264 ?_
  refine r_lor C dL_law_1265 ?_
  refine kL_157 C (k2) (sX12_put (k2) hw) dL_law_1266 (Nat.le_of_ble_eq_true rfl) rfl (Nat.le_of_ble_eq_true rfl) (fun v11 h12 hw => ?_)
  refine r_icmp_eq 1427 C dL_law_1269 (by decide) (fun hc => ?_) (fun hc => ?_)
  · replace hw := it_t hc hw
    obtain ⟨v13, ev13⟩ : ∃ v : Int32, v = x3 + (6 : Int32) := ⟨_, rfl⟩
    replace hw := hw v13 ev13
    refine r_iinc v13 [some (.ref b), some (.ref (G.1 a1)), some (.ref (G.1 a2)), some (.int v13)] C dL_law_1427 rfl (by rw [ev13]; rfl) rfl rfl ?_
    refine r_goto 18 C dL_law_1430 (by decide) ?_
    exact hK18 _ _ hw
  · replace hw := it_f hc hw
    refine r_iconst (0) C dL_law_1272 (by decide) ?_
    exact r_lawret C hL dL_law_1273 (hQ _ hw)
def jL_law_1274 (L : Nat) (xs : Nat → Int32) (a1 : Nat) (a2 : Nat) (x3 : Int32) (h : Hp) (K18 : Int32 → Hp → Prop) (Q : Int32 → Prop) : Prop :=
  vp_in (x3 + (1 : Int32)) L ∧ (vp_in (x3 + (2 : Int32)) L ∧ (wX11_element a1 (xs (x3 + (1 : Int32)).toNatClampNeg) (xs (x3 + (2 : Int32)).toNatClampNeg) h (fun v3 => vp_in (x3 + (1 : Int32)) L ∧ (vp_in (x3 + (2 : Int32)) L ∧ (wX12_element a2 (xs (x3 + (1 : Int32)).toNatClampNeg) (xs (x3 + (2 : Int32)).toNatClampNeg) h (fun v6 => if (lg_cmp v3 v6) = 0 then (∀ v7 : Int32, v7 = x3 + (6 : Int32) → (K18 v7 h)) else (Q (0 : Int32))))))))
set_option maxRecDepth 20000 in
theorem tL_law_1274 {G : GG} {X : XX} {kc ks b L : Nat} {xs : Nat → Int32} {a1 : Nat} {a2 : Nat} {x3 : Int32} {h : Hp}  {K18 : Int32 → Hp → Prop} {Q : Int32 → Prop} (C : Cx G RL cL_law 4 ret 1312 kc ks X) (hL : Lx G kc ks b L xs X) (hQ : ∀ v, Q v → v = 1) (k1 : kd a1 = 11) (k2 : kd a2 = 12) (hK18 : ∀ (y3 : Int32) (h' : Hp), K18 y3 h' → R0 G X kc ks (lw_Z X.2.2.2.2.2.2.2.1 #[Value.ref b] X.2.2.2.2.1) 18 [some (.ref b), some (.ref (G.1 a1)), some (.ref (G.1 a2)), some (.int y3)] [] h') (hw : jL_law_1274 L xs a1 a2 x3 h K18 Q) : R0 G X kc ks (lw_Z X.2.2.2.2.2.2.2.1 #[Value.ref b] X.2.2.2.2.1) 1274 [some (.ref b), some (.ref (G.1 a1)), some (.ref (G.1 a2)), some (.int x3)] [] h := by
  unfold jL_law_1274 at hw
  refine r_aload_n C dL_law_1274 rfl ?_
  refine r_aload_n C dL_law_1275 rfl ?_
  refine r_iload_n C dL_law_1276 rfl ?_
  refine r_iconst (1) C dL_law_1277 (by decide) ?_
  refine r_iadd C dL_law_1278 ?_
  obtain ⟨hi1, hw⟩ := hw
  refine r_sld C hL hi1 dL_law_1279 ?_
  refine r_aload_n C dL_law_1280 rfl ?_
  refine r_iload_n C dL_law_1281 rfl ?_
  refine r_iconst (2) C dL_law_1282 (by decide) ?_
  refine r_iadd C dL_law_1283 ?_
  obtain ⟨hi2, hw⟩ := hw
  refine r_sld C hL hi2 dL_law_1284 ?_
  refine kL_158 C (k1) (sX11_element (k1) hw) dL_law_1285 (Nat.le_of_ble_eq_true rfl) rfl (Nat.le_of_ble_eq_true rfl) (fun v3 hw => ?_)
  refine r_aload_n C dL_law_1288 rfl ?_
  refine r_aload_n C dL_law_1289 rfl ?_
  refine r_iload_n C dL_law_1290 rfl ?_
  refine r_iconst (1) C dL_law_1291 (by decide) ?_
  refine r_iadd C dL_law_1292 ?_
  obtain ⟨hi4, hw⟩ := hw
  refine r_sld C hL hi4 dL_law_1293 ?_
  refine r_aload_n C dL_law_1294 rfl ?_
  refine r_iload_n C dL_law_1295 rfl ?_
  refine r_iconst (2) C dL_law_1296 (by decide) ?_
  refine r_iadd C dL_law_1297 ?_
  obtain ⟨hi5, hw⟩ := hw
  refine r_sld C hL hi5 dL_law_1298 ?_
  refine kL_162 C (k2) (sX12_element (k2) hw) dL_law_1299 (Nat.le_of_ble_eq_true rfl) rfl (Nat.le_of_ble_eq_true rfl) (fun v6 hw => ?_)
  refine r_lcmp C dL_law_1302 ?_
  refine r_if_eq 1427 C dL_law_1303 (by decide) (fun hc => ?_) (fun hc => ?_)
  · replace hw := it_t hc hw
    obtain ⟨v7, ev7⟩ : ∃ v : Int32, v = x3 + (6 : Int32) := ⟨_, rfl⟩
    replace hw := hw v7 ev7
    refine r_iinc v7 [some (.ref b), some (.ref (G.1 a1)), some (.ref (G.1 a2)), some (.int v7)] C dL_law_1427 rfl (by rw [ev7]; rfl) rfl rfl ?_
    refine r_goto 18 C dL_law_1430 (by decide) ?_
    exact hK18 _ _ hw
  · replace hw := it_f hc hw
    refine r_iconst (0) C dL_law_1306 (by decide) ?_
    exact r_lawret C hL dL_law_1307 (hQ _ hw)
def jL_law_1308 (L : Nat) (xs : Nat → Int32) (a1 : Nat) (a2 : Nat) (x3 : Int32) (h : Hp) (K18 : Int32 → Hp → Prop) (Q : Int32 → Prop) : Prop :=
  vp_in (x3 + (1 : Int32)) L ∧ (vp_in (x3 + (2 : Int32)) L ∧ (vp_in (x3 + (3 : Int32)) L ∧ (vp_in (x3 + (4 : Int32)) L ∧ (vp_in (x3 + (5 : Int32)) L ∧ (wX11_shift a1 (xs (x3 + (1 : Int32)).toNatClampNeg) (xs (x3 + (2 : Int32)).toNatClampNeg) (xs (x3 + (3 : Int32)).toNatClampNeg) (xs (x3 + (4 : Int32)).toNatClampNeg) (xs (x3 + (5 : Int32)).toNatClampNeg) h (fun v6 h7 => vp_in (x3 + (1 : Int32)) L ∧ (vp_in (x3 + (2 : Int32)) L ∧ (vp_in (x3 + (3 : Int32)) L ∧ (vp_in (x3 + (4 : Int32)) L ∧ (vp_in (x3 + (5 : Int32)) L ∧ (wX12_shift a2 (xs (x3 + (1 : Int32)).toNatClampNeg) (xs (x3 + (2 : Int32)).toNatClampNeg) (xs (x3 + (3 : Int32)).toNatClampNeg) (xs (x3 + (4 : Int32)).toNatClampNeg) (xs (x3 + (5 : Int32)).toNatClampNeg) h7 (fun v13 h14 => if v6 = v13 then (∀ v15 : Int32, v15 = x3 + (6 : Int32) → (K18 v15 h14)) else (Q (0 : Int32))))))))))))))
set_option maxRecDepth 20000 in
theorem tL_law_1308 {G : GG} {X : XX} {kc ks b L : Nat} {xs : Nat → Int32} {a1 : Nat} {a2 : Nat} {x3 : Int32} {h : Hp}  {K18 : Int32 → Hp → Prop} {Q : Int32 → Prop} (C : Cx G RL cL_law 4 ret 1312 kc ks X) (hL : Lx G kc ks b L xs X) (hQ : ∀ v, Q v → v = 1) (k1 : kd a1 = 11) (k2 : kd a2 = 12) (hK18 : ∀ (y3 : Int32) (h' : Hp), K18 y3 h' → R0 G X kc ks (lw_Z X.2.2.2.2.2.2.2.1 #[Value.ref b] X.2.2.2.2.1) 18 [some (.ref b), some (.ref (G.1 a1)), some (.ref (G.1 a2)), some (.int y3)] [] h') (hw : jL_law_1308 L xs a1 a2 x3 h K18 Q) : R0 G X kc ks (lw_Z X.2.2.2.2.2.2.2.1 #[Value.ref b] X.2.2.2.2.1) 1308 [some (.ref b), some (.ref (G.1 a1)), some (.ref (G.1 a2)), some (.int x3)] [] h := by
  unfold jL_law_1308 at hw
  refine r_aload_n C dL_law_1308 rfl ?_
  refine r_aload_n C dL_law_1309 rfl ?_
  refine r_iload_n C dL_law_1310 rfl ?_
  refine r_iconst (1) C dL_law_1311 (by decide) ?_
  refine r_iadd C dL_law_1312 ?_
  obtain ⟨hi1, hw⟩ := hw
  refine r_sld C hL hi1 dL_law_1313 ?_
  refine r_aload_n C dL_law_1314 rfl ?_
  refine r_iload_n C dL_law_1315 rfl ?_
  refine r_iconst (2) C dL_law_1316 (by decide) ?_
  refine r_iadd C dL_law_1317 ?_
  obtain ⟨hi2, hw⟩ := hw
  refine r_sld C hL hi2 dL_law_1318 ?_
  refine r_aload_n C dL_law_1319 rfl ?_
  refine r_iload_n C dL_law_1320 rfl ?_
  refine r_iconst (3) C dL_law_1321 (by decide) ?_
  refine r_iadd C dL_law_1322 ?_
  obtain ⟨hi3, hw⟩ := hw
  refine r_sld C hL hi3 dL_law_1323 ?_
  refine r_aload_n C dL_law_1324 rfl ?_
  refine r_iload_n C dL_law_1325 rfl ?_
  refine r_iconst (4) C dL_law_1326 (by decide) ?_
  refine r_iadd C dL_law_1327 ?_
  obtain ⟨hi4, hw⟩ := hw
  refine r_sld C hL hi4 dL_law_1328 ?_
  refine r_aload_n C dL_law_1329 rfl ?_
  refine r_iload_n C dL_law_1330 rfl ?_
  refine r_iconst (5) C dL_law_1331 (by decide) ?_
  refine r_iadd C dL_law_1332 ?_
  obtain ⟨hi5, hw⟩ := hw
  refine r_sld C hL hi5 dL_law_1333 ?_
  refine kL_163 C (k1) (sX11_shift (k1) hw) dL_law_1334 (Nat.le_of_ble_eq_true rfl) rfl (Nat.le_of_ble_eq_true rfl) (fun v6 h7 hw => ?_)
  refine r_aload_n C dL_law_1337 rfl ?_
  refine r_aload_n C dL_law_1338 rfl ?_
  refine r_iload_n C dL_law_1339 rfl ?_
  refine r_iconst (1) C dL_law_1340 (by decide) ?_
  refine r_iadd C dL_law_1341 ?_
  obtain ⟨hi8, hw⟩ := hw
  refine r_sld C hL hi8 dL_law_1342 ?_
  refine r_aload_n C dL_law_1343 rfl ?_
  refine r_iload_n C dL_law_1344 rfl ?_
  refine r_iconst (2) C dL_law_1345 (by decide) ?_
  refine r_iadd C dL_law_1346 ?_
  obtain ⟨hi9, hw⟩ := hw
  refine r_sld C hL hi9 dL_law_1347 ?_
  refine r_aload_n C dL_law_1348 rfl ?_
  refine r_iload_n C dL_law_1349 rfl ?_
  refine r_iconst (3) C dL_law_1350 (by decide) ?_
  refine r_iadd C dL_law_1351 ?_
  obtain ⟨hi10, hw⟩ := hw
  refine r_sld C hL hi10 dL_law_1352 ?_
  refine r_aload_n C dL_law_1353 rfl ?_
  refine r_iload_n C dL_law_1354 rfl ?_
  refine r_iconst (4) C dL_law_1355 (by decide) ?_
  refine r_iadd C dL_law_1356 ?_
  obtain ⟨hi11, hw⟩ := hw
  refine r_sld C hL hi11 dL_law_1357 ?_
  refine r_aload_n C dL_law_1358 rfl ?_
  refine r_iload_n C dL_law_1359 rfl ?_
  refine r_iconst (5) C dL_law_1360 (by decide) ?_
  refine r_iadd C dL_law_1361 ?_
  obtain ⟨hi12, hw⟩ := hw
  refine r_sld C hL hi12 dL_law_1362 ?_
  refine kL_167 C (k2) (sX12_shift (k2) hw) dL_law_1363 (Nat.le_of_ble_eq_true rfl) rfl (Nat.le_of_ble_eq_true rfl) (fun v13 h14 hw => ?_)
  refine r_icmp_eq 1427 C dL_law_1366 (by decide) (fun hc => ?_) (fun hc => ?_)
  · replace hw := it_t hc hw
    obtain ⟨v15, ev15⟩ : ∃ v : Int32, v = x3 + (6 : Int32) := ⟨_, rfl⟩
    replace hw := hw v15 ev15
    refine r_iinc v15 [some (.ref b), some (.ref (G.1 a1)), some (.ref (G.1 a2)), some (.int v15)] C dL_law_1427 rfl (by rw [ev15]; rfl) rfl rfl ?_
    refine r_goto 18 C dL_law_1430 (by decide) ?_
    exact hK18 _ _ hw
  · replace hw := it_f hc hw
    refine r_iconst (0) C dL_law_1369 (by decide) ?_
    exact r_lawret C hL dL_law_1370 (hQ _ hw)
def jL_law_1371 (L : Nat) (xs : Nat → Int32) (a1 : Nat) (a2 : Nat) (x3 : Int32) (h : Hp) (K18 : Int32 → Hp → Prop) (Q : Int32 → Prop) : Prop :=
  vp_in (x3 + (1 : Int32)) L ∧ (vp_in (x3 + (2 : Int32)) L ∧ (wX11_taken a1 (xs (x3 + (1 : Int32)).toNatClampNeg) (xs (x3 + (2 : Int32)).toNatClampNeg) h (fun v3 => vp_in (x3 + (1 : Int32)) L ∧ (vp_in (x3 + (2 : Int32)) L ∧ (wX12_taken a2 (xs (x3 + (1 : Int32)).toNatClampNeg) (xs (x3 + (2 : Int32)).toNatClampNeg) h (fun v6 => if v3 = v6 then (∀ v7 : Int32, v7 = x3 + (6 : Int32) → (K18 v7 h)) else (Q (0 : Int32))))))))
set_option maxRecDepth 20000 in
theorem tL_law_1371 {G : GG} {X : XX} {kc ks b L : Nat} {xs : Nat → Int32} {a1 : Nat} {a2 : Nat} {x3 : Int32} {h : Hp}  {K18 : Int32 → Hp → Prop} {Q : Int32 → Prop} (C : Cx G RL cL_law 4 ret 1312 kc ks X) (hL : Lx G kc ks b L xs X) (hQ : ∀ v, Q v → v = 1) (k1 : kd a1 = 11) (k2 : kd a2 = 12) (hK18 : ∀ (y3 : Int32) (h' : Hp), K18 y3 h' → R0 G X kc ks (lw_Z X.2.2.2.2.2.2.2.1 #[Value.ref b] X.2.2.2.2.1) 18 [some (.ref b), some (.ref (G.1 a1)), some (.ref (G.1 a2)), some (.int y3)] [] h') (hw : jL_law_1371 L xs a1 a2 x3 h K18 Q) : R0 G X kc ks (lw_Z X.2.2.2.2.2.2.2.1 #[Value.ref b] X.2.2.2.2.1) 1371 [some (.ref b), some (.ref (G.1 a1)), some (.ref (G.1 a2)), some (.int x3)] [] h := by
  unfold jL_law_1371 at hw
  refine r_aload_n C dL_law_1371 rfl ?_
  refine r_aload_n C dL_law_1372 rfl ?_
  refine r_iload_n C dL_law_1373 rfl ?_
  refine r_iconst (1) C dL_law_1374 (by decide) ?_
  refine r_iadd C dL_law_1375 ?_
  obtain ⟨hi1, hw⟩ := hw
  refine r_sld C hL hi1 dL_law_1376 ?_
  refine r_aload_n C dL_law_1377 rfl ?_
  refine r_iload_n C dL_law_1378 rfl ?_
  refine r_iconst (2) C dL_law_1379 (by decide) ?_
  refine r_iadd C dL_law_1380 ?_
  obtain ⟨hi2, hw⟩ := hw
  refine r_sld C hL hi2 dL_law_1381 ?_
  refine kL_168 C (k1) (sX11_taken (k1) hw) dL_law_1382 (Nat.le_of_ble_eq_true rfl) rfl (Nat.le_of_ble_eq_true rfl) (fun v3 hw => ?_)
  refine r_aload_n C dL_law_1385 rfl ?_
  refine r_aload_n C dL_law_1386 rfl ?_
  refine r_iload_n C dL_law_1387 rfl ?_
  refine r_iconst (1) C dL_law_1388 (by decide) ?_
  refine r_iadd C dL_law_1389 ?_
  obtain ⟨hi4, hw⟩ := hw
  refine r_sld C hL hi4 dL_law_1390 ?_
  refine r_aload_n C dL_law_1391 rfl ?_
  refine r_iload_n C dL_law_1392 rfl ?_
  refine r_iconst (2) C dL_law_1393 (by decide) ?_
  refine r_iadd C dL_law_1394 ?_
  obtain ⟨hi5, hw⟩ := hw
  refine r_sld C hL hi5 dL_law_1395 ?_
  refine kL_171 C (k2) (sX12_taken (k2) hw) dL_law_1396 (Nat.le_of_ble_eq_true rfl) rfl (Nat.le_of_ble_eq_true rfl) (fun v6 hw => ?_)
  refine r_icmp_eq 1427 C dL_law_1399 (by decide) (fun hc => ?_) (fun hc => ?_)
  · replace hw := it_t hc hw
    obtain ⟨v7, ev7⟩ : ∃ v : Int32, v = x3 + (6 : Int32) := ⟨_, rfl⟩
    replace hw := hw v7 ev7
    refine r_iinc v7 [some (.ref b), some (.ref (G.1 a1)), some (.ref (G.1 a2)), some (.int v7)] C dL_law_1427 rfl (by rw [ev7]; rfl) rfl rfl ?_
    refine r_goto 18 C dL_law_1430 (by decide) ?_
    exact hK18 _ _ hw
  · replace hw := it_f hc hw
    refine r_iconst (0) C dL_law_1402 (by decide) ?_
    exact r_lawret C hL dL_law_1403 (hQ _ hw)
def jL_law_1404 (L : Nat) (xs : Nat → Int32) (a1 : Nat) (a2 : Nat) (x3 : Int32) (h : Hp) (K18 : Int32 → Hp → Prop) (Q : Int32 → Prop) : Prop :=
  vp_in (x3 + (1 : Int32)) L ∧ (wX11_count a1 (xs (x3 + (1 : Int32)).toNatClampNeg) h (fun v2 => vp_in (x3 + (1 : Int32)) L ∧ (wX12_count a2 (xs (x3 + (1 : Int32)).toNatClampNeg) h (fun v4 => if v2 = v4 then (∀ v5 : Int32, v5 = x3 + (6 : Int32) → (K18 v5 h)) else (Q (0 : Int32))))))
set_option maxRecDepth 20000 in
theorem tL_law_1404 {G : GG} {X : XX} {kc ks b L : Nat} {xs : Nat → Int32} {a1 : Nat} {a2 : Nat} {x3 : Int32} {h : Hp}  {K18 : Int32 → Hp → Prop} {Q : Int32 → Prop} (C : Cx G RL cL_law 4 ret 1312 kc ks X) (hL : Lx G kc ks b L xs X) (hQ : ∀ v, Q v → v = 1) (k1 : kd a1 = 11) (k2 : kd a2 = 12) (hK18 : ∀ (y3 : Int32) (h' : Hp), K18 y3 h' → R0 G X kc ks (lw_Z X.2.2.2.2.2.2.2.1 #[Value.ref b] X.2.2.2.2.1) 18 [some (.ref b), some (.ref (G.1 a1)), some (.ref (G.1 a2)), some (.int y3)] [] h') (hw : jL_law_1404 L xs a1 a2 x3 h K18 Q) : R0 G X kc ks (lw_Z X.2.2.2.2.2.2.2.1 #[Value.ref b] X.2.2.2.2.1) 1404 [some (.ref b), some (.ref (G.1 a1)), some (.ref (G.1 a2)), some (.int x3)] [] h := by
  unfold jL_law_1404 at hw
  refine r_aload_n C dL_law_1404 rfl ?_
  refine r_aload_n C dL_law_1405 rfl ?_
  refine r_iload_n C dL_law_1406 rfl ?_
  refine r_iconst (1) C dL_law_1407 (by decide) ?_
  refine r_iadd C dL_law_1408 ?_
  obtain ⟨hi1, hw⟩ := hw
  refine r_sld C hL hi1 dL_law_1409 ?_
  refine kL_172 C (k1) (sX11_count (k1) hw) dL_law_1410 (Nat.le_of_ble_eq_true rfl) rfl (Nat.le_of_ble_eq_true rfl) (fun v2 hw => ?_)
  refine r_aload_n C dL_law_1413 rfl ?_
  refine r_aload_n C dL_law_1414 rfl ?_
  refine r_iload_n C dL_law_1415 rfl ?_
  refine r_iconst (1) C dL_law_1416 (by decide) ?_
  refine r_iadd C dL_law_1417 ?_
  obtain ⟨hi3, hw⟩ := hw
  refine r_sld C hL hi3 dL_law_1418 ?_
  refine kL_175 C (k2) (sX12_count (k2) hw) dL_law_1419 (Nat.le_of_ble_eq_true rfl) rfl (Nat.le_of_ble_eq_true rfl) (fun v4 hw => ?_)
  refine r_icmp_eq 1427 C dL_law_1422 (by decide) (fun hc => ?_) (fun hc => ?_)
  · replace hw := it_t hc hw
    obtain ⟨v5, ev5⟩ : ∃ v : Int32, v = x3 + (6 : Int32) := ⟨_, rfl⟩
    replace hw := hw v5 ev5
    refine r_iinc v5 [some (.ref b), some (.ref (G.1 a1)), some (.ref (G.1 a2)), some (.int v5)] C dL_law_1427 rfl (by rw [ev5]; rfl) rfl rfl ?_
    refine r_goto 18 C dL_law_1430 (by decide) ?_
    exact hK18 _ _ hw
  · replace hw := it_f hc hw
    refine r_iconst (0) C dL_law_1425 (by decide) ?_
    exact r_lawret C hL dL_law_1426 (hQ _ hw)
def fL_law_18 (L : Nat) (xs : Nat → Int32) (a1 : Nat) (a2 : Nat) (Q : Int32 → Prop) (K18 : Int32 → Hp → Prop) (x3 : Int32) (h : Hp) : Prop :=
  if ((Int32.ofNat L) - (6 : Int32)) < x3 then (Q (1 : Int32)) else (vp_in x3 L ∧ (∀ v2 : Int32, v2 = ((xs x3.toNatClampNeg) &&& (63 : Int32)) → (if v2 = (0 : Int32) then (jL_law_200 L xs a1 a2 x3 h K18 Q) else (if v2 = (1 : Int32) then (jL_law_223 L xs a1 a2 x3 h K18 Q) else (if v2 = (2 : Int32) then (jL_law_256 L xs a1 a2 x3 h K18 Q) else (if v2 = (3 : Int32) then (jL_law_299 L xs a1 a2 x3 h K18 Q) else (if v2 = (4 : Int32) then (jL_law_342 L xs a1 a2 x3 h K18 Q) else (if v2 = (5 : Int32) then (jL_law_375 L xs a1 a2 x3 h K18 Q) else (if v2 = (6 : Int32) then (jL_law_398 L xs a1 a2 x3 h K18 Q) else (if v2 = (7 : Int32) then (jL_law_421 L xs a1 a2 x3 h K18 Q) else (if v2 = (8 : Int32) then (jL_law_464 L xs a1 a2 x3 h K18 Q) else (if v2 = (9 : Int32) then (jL_law_497 L xs a1 a2 x3 h K18 Q) else (if v2 = (10 : Int32) then (jL_law_530 L xs a1 a2 x3 h K18 Q) else (if v2 = (11 : Int32) then (jL_law_553 L xs a1 a2 x3 h K18 Q) else (if v2 = (12 : Int32) then (jL_law_596 L xs a1 a2 x3 h K18 Q) else (if v2 = (13 : Int32) then (jL_law_629 L xs a1 a2 x3 h K18 Q) else (if v2 = (14 : Int32) then (jL_law_642 L xs a1 a2 x3 h K18 Q) else (if v2 = (15 : Int32) then (jL_law_666 L xs a1 a2 x3 h K18 Q) else (if v2 = (16 : Int32) then (jL_law_699 L xs a1 a2 x3 h K18 Q) else (if v2 = (17 : Int32) then (jL_law_732 L xs a1 a2 x3 h K18 Q) else (if v2 = (18 : Int32) then (jL_law_765 L xs a1 a2 x3 h K18 Q) else (if v2 = (19 : Int32) then (jL_law_788 L xs a1 a2 x3 h K18 Q) else (if v2 = (20 : Int32) then (jL_law_832 L xs a1 a2 x3 h K18 Q) else (if v2 = (21 : Int32) then (jL_law_875 L xs a1 a2 x3 h K18 Q) else (if v2 = (22 : Int32) then (jL_law_908 L xs a1 a2 x3 h K18 Q) else (if v2 = (23 : Int32) then (jL_law_941 L xs a1 a2 x3 h K18 Q) else (if v2 = (24 : Int32) then (jL_law_984 L xs a1 a2 x3 h K18 Q) else (if v2 = (25 : Int32) then (jL_law_997 L xs a1 a2 x3 h K18 Q) else (if v2 = (26 : Int32) then (jL_law_1010 L xs a1 a2 x3 h K18 Q) else (if v2 = (27 : Int32) then (jL_law_1023 L xs a1 a2 x3 h K18 Q) else (if v2 = (28 : Int32) then (jL_law_1036 L xs a1 a2 x3 h K18 Q) else (if v2 = (29 : Int32) then (jL_law_1059 L xs a1 a2 x3 h K18 Q) else (if v2 = (30 : Int32) then (jL_law_1102 L xs a1 a2 x3 h K18 Q) else (if v2 = (31 : Int32) then (jL_law_1125 L xs a1 a2 x3 h K18 Q) else (if v2 = (32 : Int32) then (jL_law_1158 L xs a1 a2 x3 h K18 Q) else (if v2 = (33 : Int32) then (jL_law_1201 L xs a1 a2 x3 h K18 Q) else (if v2 = (34 : Int32) then (jL_law_1274 L xs a1 a2 x3 h K18 Q) else (if v2 = (35 : Int32) then (jL_law_1308 L xs a1 a2 x3 h K18 Q) else (if v2 = (36 : Int32) then (jL_law_1371 L xs a1 a2 x3 h K18 Q) else (if v2 = (37 : Int32) then (jL_law_1404 L xs a1 a2 x3 h K18 Q) else (∀ v3 : Int32, v3 = x3 + (6 : Int32) → (K18 v3 h))))))))))))))))))))))))))))))))))))))))))
def eL_law_18 (L : Nat) (xs : Nat → Int32) (a1 : Nat) (a2 : Nat) (Q : Int32 → Prop) (x3 : Int32) (h : Hp) : Prop := ∃ N, lpN (fun (K : Int32 × Hp → Prop) (s : Int32 × Hp) => fL_law_18 L xs a1 a2 Q (fun x3 h => K (x3, h)) s.1 s.2) N (x3, h)
theorem iL_law_18 {L : Nat} {xs : Nat → Int32} {a1 : Nat} {a2 : Nat} {Q : Int32 → Prop} (I : Int32 → Hp → Prop) (μ : Int32 → Hp → Nat) (hs : ∀ (x3 : Int32) (h : Hp), I x3 h → ∀ K : Int32 → Hp → Prop, (∀ (x3' : Int32) (h' : Hp), I x3' h' → μ x3' h' < μ x3 h → K x3' h') → fL_law_18 L xs a1 a2 Q K x3 h) : ∀ (x3 : Int32) (h : Hp), I x3 h → eL_law_18 L xs a1 a2 Q x3 h := fun x3 h hI => lp_ind (fun s => I s.1 s.2) (fun s => μ s.1 s.2) (fun s hs' K hK => hs s.1 s.2 hs' _ (fun x3' h' h1 h2 => hK (x3', h') h1 h2)) (x3, h) hI
set_option maxRecDepth 20000 in
theorem tL_law_18 {G : GG} {X : XX} {kc ks b L : Nat} {xs : Nat → Int32} {a1 : Nat} {a2 : Nat} {x3 : Int32} {h : Hp}  {Q : Int32 → Prop} (C : Cx G RL cL_law 4 ret 1312 kc ks X) (hL : Lx G kc ks b L xs X) (hQ : ∀ v, Q v → v = 1) (k1 : kd a1 = 11) (k2 : kd a2 = 12) (hw : eL_law_18 L xs a1 a2 Q x3 h) : R0 G X kc ks (lw_Z X.2.2.2.2.2.2.2.1 #[Value.ref b] X.2.2.2.2.1) 18 [some (.ref b), some (.ref (G.1 a1)), some (.ref (G.1 a2)), some (.int x3)] [] h := by
  obtain ⟨N, hw⟩ := hw
  induction N generalizing x3 h with
  | zero => exact hw.elim
  | succ N ih =>
    obtain ⟨K18, eK⟩ : ∃ K : Int32 → Hp → Prop, K = (fun x3 h => lpN (fun (K : Int32 × Hp → Prop) (s : Int32 × Hp) => fL_law_18 L xs a1 a2 Q (fun x3 h => K (x3, h)) s.1 s.2) N (x3, h)) := ⟨_, rfl⟩
    have hw : fL_law_18 L xs a1 a2 Q (fun x3 h => lpN (fun (K : Int32 × Hp → Prop) (s : Int32 × Hp) => fL_law_18 L xs a1 a2 Q (fun x3 h => K (x3, h)) s.1 s.2) N (x3, h)) x3 h := hw
    have hK18 : ∀ (x3 : Int32) (h : Hp), K18 x3 h → R0 G X kc ks (lw_Z X.2.2.2.2.2.2.2.1 #[Value.ref b] X.2.2.2.2.1) 18 [some (.ref b), some (.ref (G.1 a1)), some (.ref (G.1 a2)), some (.int x3)] [] h := fun x3 h q => ih (by rw [eK] at q; exact q)
    rw [← eK] at hw
    clear eK ih
    unfold fL_law_18 at hw
    refine r_iload_n C dL_law_18 rfl ?_
    refine r_aload_n C dL_law_19 rfl ?_
    refine r_slen C hL dL_law_20 ?_
    refine r_bipush (6) C dL_law_21 (by decide) ?_
    refine r_isub C dL_law_23 ?_
    refine r_icmp_gt 1433 C dL_law_24 (by decide) (fun hc => ?_) (fun hc => ?_)
    · replace hw := it_t hc hw
      refine r_iconst (1) C dL_law_1433 (by decide) ?_
      exact r_lawret C hL dL_law_1434 (hQ _ hw)
    · replace hw := it_f hc hw
      refine r_aload_n C dL_law_27 rfl ?_
      refine r_iload_n C dL_law_28 rfl ?_
      obtain ⟨hi1, hw⟩ := hw
      refine r_sld C hL hi1 dL_law_29 ?_
      refine r_bipush (63) C dL_law_30 (by decide) ?_
      refine r_iand C dL_law_32 ?_
      refine r_topi (fun v2 ev2 => ?_)
      replace hw := hw v2 ev2
      by_cases hs33_0 : v2 = (0 : Int32)
      · replace hw := it_t hs33_0 hw
        refine r_tabIn (off := 167) (0) 200 C dL_law_33 hs33_0 (by decide) ?_
        exact tL_law_200 C hL hQ (k1) (k2) hK18 hw
      replace hw := it_f hs33_0 hw
      by_cases hs33_1 : v2 = (1 : Int32)
      · replace hw := it_t hs33_1 hw
        refine r_tabIn (off := 190) (1) 223 C dL_law_33 hs33_1 (by decide) ?_
        exact tL_law_223 C hL hQ (k1) (k2) hK18 hw
      replace hw := it_f hs33_1 hw
      by_cases hs33_2 : v2 = (2 : Int32)
      · replace hw := it_t hs33_2 hw
        refine r_tabIn (off := 223) (2) 256 C dL_law_33 hs33_2 (by decide) ?_
        exact tL_law_256 C hL hQ (k1) (k2) hK18 hw
      replace hw := it_f hs33_2 hw
      by_cases hs33_3 : v2 = (3 : Int32)
      · replace hw := it_t hs33_3 hw
        refine r_tabIn (off := 266) (3) 299 C dL_law_33 hs33_3 (by decide) ?_
        exact tL_law_299 C hL hQ (k1) (k2) hK18 hw
      replace hw := it_f hs33_3 hw
      by_cases hs33_4 : v2 = (4 : Int32)
      · replace hw := it_t hs33_4 hw
        refine r_tabIn (off := 309) (4) 342 C dL_law_33 hs33_4 (by decide) ?_
        exact tL_law_342 C hL hQ (k1) (k2) hK18 hw
      replace hw := it_f hs33_4 hw
      by_cases hs33_5 : v2 = (5 : Int32)
      · replace hw := it_t hs33_5 hw
        refine r_tabIn (off := 342) (5) 375 C dL_law_33 hs33_5 (by decide) ?_
        exact tL_law_375 C hL hQ (k1) (k2) hK18 hw
      replace hw := it_f hs33_5 hw
      by_cases hs33_6 : v2 = (6 : Int32)
      · replace hw := it_t hs33_6 hw
        refine r_tabIn (off := 365) (6) 398 C dL_law_33 hs33_6 (by decide) ?_
        exact tL_law_398 C hL hQ (k1) (k2) hK18 hw
      replace hw := it_f hs33_6 hw
      by_cases hs33_7 : v2 = (7 : Int32)
      · replace hw := it_t hs33_7 hw
        refine r_tabIn (off := 388) (7) 421 C dL_law_33 hs33_7 (by decide) ?_
        exact tL_law_421 C hL hQ (k1) (k2) hK18 hw
      replace hw := it_f hs33_7 hw
      by_cases hs33_8 : v2 = (8 : Int32)
      · replace hw := it_t hs33_8 hw
        refine r_tabIn (off := 431) (8) 464 C dL_law_33 hs33_8 (by decide) ?_
        exact tL_law_464 C hL hQ (k1) (k2) hK18 hw
      replace hw := it_f hs33_8 hw
      by_cases hs33_9 : v2 = (9 : Int32)
      · replace hw := it_t hs33_9 hw
        refine r_tabIn (off := 464) (9) 497 C dL_law_33 hs33_9 (by decide) ?_
        exact tL_law_497 C hL hQ (k1) (k2) hK18 hw
      replace hw := it_f hs33_9 hw
      by_cases hs33_10 : v2 = (10 : Int32)
      · replace hw := it_t hs33_10 hw
        refine r_tabIn (off := 497) (10) 530 C dL_law_33 hs33_10 (by decide) ?_
        exact tL_law_530 C hL hQ (k1) (k2) hK18 hw
      replace hw := it_f hs33_10 hw
      by_cases hs33_11 : v2 = (11 : Int32)
      · replace hw := it_t hs33_11 hw
        refine r_tabIn (off := 520) (11) 553 C dL_law_33 hs33_11 (by decide) ?_
        exact tL_law_553 C hL hQ (k1) (k2) hK18 hw
      replace hw := it_f hs33_11 hw
      by_cases hs33_12 : v2 = (12 : Int32)
      · replace hw := it_t hs33_12 hw
        refine r_tabIn (off := 563) (12) 596 C dL_law_33 hs33_12 (by decide) ?_
        exact tL_law_596 C hL hQ (k1) (k2) hK18 hw
      replace hw := it_f hs33_12 hw
      by_cases hs33_13 : v2 = (13 : Int32)
      · replace hw := it_t hs33_13 hw
        refine r_tabIn (off := 596) (13) 629 C dL_law_33 hs33_13 (by decide) ?_
        exact tL_law_629 C hL hQ (k1) (k2) hK18 hw
      replace hw := it_f hs33_13 hw
      by_cases hs33_14 : v2 = (14 : Int32)
      · replace hw := it_t hs33_14 hw
        refine r_tabIn (off := 609) (14) 642 C dL_law_33 hs33_14 (by decide) ?_
        exact tL_law_642 C hL hQ (k1) (k2) hK18 hw
      replace hw := it_f hs33_14 hw
      by_cases hs33_15 : v2 = (15 : Int32)
      · replace hw := it_t hs33_15 hw
        refine r_tabIn (off := 633) (15) 666 C dL_law_33 hs33_15 (by decide) ?_
        exact tL_law_666 C hL hQ (k1) (k2) hK18 hw
      replace hw := it_f hs33_15 hw
      by_cases hs33_16 : v2 = (16 : Int32)
      · replace hw := it_t hs33_16 hw
        refine r_tabIn (off := 666) (16) 699 C dL_law_33 hs33_16 (by decide) ?_
        exact tL_law_699 C hL hQ (k1) (k2) hK18 hw
      replace hw := it_f hs33_16 hw
      by_cases hs33_17 : v2 = (17 : Int32)
      · replace hw := it_t hs33_17 hw
        refine r_tabIn (off := 699) (17) 732 C dL_law_33 hs33_17 (by decide) ?_
        exact tL_law_732 C hL hQ (k1) (k2) hK18 hw
      replace hw := it_f hs33_17 hw
      by_cases hs33_18 : v2 = (18 : Int32)
      · replace hw := it_t hs33_18 hw
        refine r_tabIn (off := 732) (18) 765 C dL_law_33 hs33_18 (by decide) ?_
        exact tL_law_765 C hL hQ (k1) (k2) hK18 hw
      replace hw := it_f hs33_18 hw
      by_cases hs33_19 : v2 = (19 : Int32)
      · replace hw := it_t hs33_19 hw
        refine r_tabIn (off := 755) (19) 788 C dL_law_33 hs33_19 (by decide) ?_
        exact tL_law_788 C hL hQ (k1) (k2) hK18 hw
      replace hw := it_f hs33_19 hw
      by_cases hs33_20 : v2 = (20 : Int32)
      · replace hw := it_t hs33_20 hw
        refine r_tabIn (off := 799) (20) 832 C dL_law_33 hs33_20 (by decide) ?_
        exact tL_law_832 C hL hQ (k1) (k2) hK18 hw
      replace hw := it_f hs33_20 hw
      by_cases hs33_21 : v2 = (21 : Int32)
      · replace hw := it_t hs33_21 hw
        refine r_tabIn (off := 842) (21) 875 C dL_law_33 hs33_21 (by decide) ?_
        exact tL_law_875 C hL hQ (k1) (k2) hK18 hw
      replace hw := it_f hs33_21 hw
      by_cases hs33_22 : v2 = (22 : Int32)
      · replace hw := it_t hs33_22 hw
        refine r_tabIn (off := 875) (22) 908 C dL_law_33 hs33_22 (by decide) ?_
        exact tL_law_908 C hL hQ (k1) (k2) hK18 hw
      replace hw := it_f hs33_22 hw
      by_cases hs33_23 : v2 = (23 : Int32)
      · replace hw := it_t hs33_23 hw
        refine r_tabIn (off := 908) (23) 941 C dL_law_33 hs33_23 (by decide) ?_
        exact tL_law_941 C hL hQ (k1) (k2) hK18 hw
      replace hw := it_f hs33_23 hw
      by_cases hs33_24 : v2 = (24 : Int32)
      · replace hw := it_t hs33_24 hw
        refine r_tabIn (off := 951) (24) 984 C dL_law_33 hs33_24 (by decide) ?_
        exact tL_law_984 C hL hQ (k1) (k2) hK18 hw
      replace hw := it_f hs33_24 hw
      by_cases hs33_25 : v2 = (25 : Int32)
      · replace hw := it_t hs33_25 hw
        refine r_tabIn (off := 964) (25) 997 C dL_law_33 hs33_25 (by decide) ?_
        exact tL_law_997 C hL hQ (k1) (k2) hK18 hw
      replace hw := it_f hs33_25 hw
      by_cases hs33_26 : v2 = (26 : Int32)
      · replace hw := it_t hs33_26 hw
        refine r_tabIn (off := 977) (26) 1010 C dL_law_33 hs33_26 (by decide) ?_
        exact tL_law_1010 C hL hQ (k1) (k2) hK18 hw
      replace hw := it_f hs33_26 hw
      by_cases hs33_27 : v2 = (27 : Int32)
      · replace hw := it_t hs33_27 hw
        refine r_tabIn (off := 990) (27) 1023 C dL_law_33 hs33_27 (by decide) ?_
        exact tL_law_1023 C hL hQ (k1) (k2) hK18 hw
      replace hw := it_f hs33_27 hw
      by_cases hs33_28 : v2 = (28 : Int32)
      · replace hw := it_t hs33_28 hw
        refine r_tabIn (off := 1003) (28) 1036 C dL_law_33 hs33_28 (by decide) ?_
        exact tL_law_1036 C hL hQ (k1) (k2) hK18 hw
      replace hw := it_f hs33_28 hw
      by_cases hs33_29 : v2 = (29 : Int32)
      · replace hw := it_t hs33_29 hw
        refine r_tabIn (off := 1026) (29) 1059 C dL_law_33 hs33_29 (by decide) ?_
        exact tL_law_1059 C hL hQ (k1) (k2) hK18 hw
      replace hw := it_f hs33_29 hw
      by_cases hs33_30 : v2 = (30 : Int32)
      · replace hw := it_t hs33_30 hw
        refine r_tabIn (off := 1069) (30) 1102 C dL_law_33 hs33_30 (by decide) ?_
        exact tL_law_1102 C hL hQ (k1) (k2) hK18 hw
      replace hw := it_f hs33_30 hw
      by_cases hs33_31 : v2 = (31 : Int32)
      · replace hw := it_t hs33_31 hw
        refine r_tabIn (off := 1092) (31) 1125 C dL_law_33 hs33_31 (by decide) ?_
        exact tL_law_1125 C hL hQ (k1) (k2) hK18 hw
      replace hw := it_f hs33_31 hw
      by_cases hs33_32 : v2 = (32 : Int32)
      · replace hw := it_t hs33_32 hw
        refine r_tabIn (off := 1125) (32) 1158 C dL_law_33 hs33_32 (by decide) ?_
        exact tL_law_1158 C hL hQ (k1) (k2) hK18 hw
      replace hw := it_f hs33_32 hw
      by_cases hs33_33 : v2 = (33 : Int32)
      · replace hw := it_t hs33_33 hw
        refine r_tabIn (off := 1168) (33) 1201 C dL_law_33 hs33_33 (by decide) ?_
        exact tL_law_1201 C hL hQ (k1) (k2) hK18 hw
      replace hw := it_f hs33_33 hw
      by_cases hs33_34 : v2 = (34 : Int32)
      · replace hw := it_t hs33_34 hw
        refine r_tabIn (off := 1241) (34) 1274 C dL_law_33 hs33_34 (by decide) ?_
        exact tL_law_1274 C hL hQ (k1) (k2) hK18 hw
      replace hw := it_f hs33_34 hw
      by_cases hs33_35 : v2 = (35 : Int32)
      · replace hw := it_t hs33_35 hw
        refine r_tabIn (off := 1275) (35) 1308 C dL_law_33 hs33_35 (by decide) ?_
        exact tL_law_1308 C hL hQ (k1) (k2) hK18 hw
      replace hw := it_f hs33_35 hw
      by_cases hs33_36 : v2 = (36 : Int32)
      · replace hw := it_t hs33_36 hw
        refine r_tabIn (off := 1338) (36) 1371 C dL_law_33 hs33_36 (by decide) ?_
        exact tL_law_1371 C hL hQ (k1) (k2) hK18 hw
      replace hw := it_f hs33_36 hw
      by_cases hs33_37 : v2 = (37 : Int32)
      · replace hw := it_t hs33_37 hw
        refine r_tabIn (off := 1371) (37) 1404 C dL_law_33 hs33_37 (by decide) ?_
        exact tL_law_1404 C hL hQ (k1) (k2) hK18 hw
      replace hw := it_f hs33_37 hw
      refine r_tabOut 1427 C dL_law_33 (by have qhs33_0 := lv_neT (a := 0) hs33_0 (by decide); have qhs33_1 := lv_neT (a := 1) hs33_1 (by decide); have qhs33_2 := lv_neT (a := 2) hs33_2 (by decide); have qhs33_3 := lv_neT (a := 3) hs33_3 (by decide); have qhs33_4 := lv_neT (a := 4) hs33_4 (by decide); have qhs33_5 := lv_neT (a := 5) hs33_5 (by decide); have qhs33_6 := lv_neT (a := 6) hs33_6 (by decide); have qhs33_7 := lv_neT (a := 7) hs33_7 (by decide); have qhs33_8 := lv_neT (a := 8) hs33_8 (by decide); have qhs33_9 := lv_neT (a := 9) hs33_9 (by decide); have qhs33_10 := lv_neT (a := 10) hs33_10 (by decide); have qhs33_11 := lv_neT (a := 11) hs33_11 (by decide); have qhs33_12 := lv_neT (a := 12) hs33_12 (by decide); have qhs33_13 := lv_neT (a := 13) hs33_13 (by decide); have qhs33_14 := lv_neT (a := 14) hs33_14 (by decide); have qhs33_15 := lv_neT (a := 15) hs33_15 (by decide); have qhs33_16 := lv_neT (a := 16) hs33_16 (by decide); have qhs33_17 := lv_neT (a := 17) hs33_17 (by decide); have qhs33_18 := lv_neT (a := 18) hs33_18 (by decide); have qhs33_19 := lv_neT (a := 19) hs33_19 (by decide); have qhs33_20 := lv_neT (a := 20) hs33_20 (by decide); have qhs33_21 := lv_neT (a := 21) hs33_21 (by decide); have qhs33_22 := lv_neT (a := 22) hs33_22 (by decide); have qhs33_23 := lv_neT (a := 23) hs33_23 (by decide); have qhs33_24 := lv_neT (a := 24) hs33_24 (by decide); have qhs33_25 := lv_neT (a := 25) hs33_25 (by decide); have qhs33_26 := lv_neT (a := 26) hs33_26 (by decide); have qhs33_27 := lv_neT (a := 27) hs33_27 (by decide); have qhs33_28 := lv_neT (a := 28) hs33_28 (by decide); have qhs33_29 := lv_neT (a := 29) hs33_29 (by decide); have qhs33_30 := lv_neT (a := 30) hs33_30 (by decide); have qhs33_31 := lv_neT (a := 31) hs33_31 (by decide); have qhs33_32 := lv_neT (a := 32) hs33_32 (by decide); have qhs33_33 := lv_neT (a := 33) hs33_33 (by decide); have qhs33_34 := lv_neT (a := 34) hs33_34 (by decide); have qhs33_35 := lv_neT (a := 35) hs33_35 (by decide); have qhs33_36 := lv_neT (a := 36) hs33_36 (by decide); have qhs33_37 := lv_neT (a := 37) hs33_37 (by decide); omega) (by decide) ?_
      obtain ⟨v3, ev3⟩ : ∃ v : Int32, v = x3 + (6 : Int32) := ⟨_, rfl⟩
      replace hw := hw v3 ev3
      refine r_iinc v3 [some (.ref b), some (.ref (G.1 a1)), some (.ref (G.1 a2)), some (.int v3)] C dL_law_1427 rfl (by rw [ev3]; rfl) rfl rfl ?_
      refine r_goto 18 C dL_law_1430 (by decide) ?_
      exact hK18 _ _ hw
