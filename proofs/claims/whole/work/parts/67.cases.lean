/-! 67: the law's cases, by wip/gen/law.py -/
def LLb (g : Gm) (b i : Nat) : List (Option Value) := [some (.ref b), some (rf g 0), some (rf g 229), some (.int (nI i))]
/-- what the loop does behind a call -/
def NX (g : Gm) (nm : String) (QF : Qf) (b Ln i : Nat) (xs : Nat → Int32) : Prop := ∀ (V : Vw) (M : Mi) (ml : Ml) (ld dr m wn sn : Nat), LayT V ld dr → LayM V → ((ld = 4 ∧ dr = 210) ∨ (ld = 210 ∧ dr = 4)) → RR M M ml ld m wn sn → At g (YLn nm) (EL g b Ln xs) QF V (249, 9132) 1196 [some (.ref b), some (rf g 0), some (rf g 229), some (.int (nI i))] [] M ml
theorem k_feed {g : Gm} {nm : String} {QF : Qf} {V : Vw} {M : Mi} {ml : Ml} {b Ln i ld dr m wn sn : Nat} {xs : Nat → Int32} (hi : i + 6 ≤ Ln) (hLn : Ln ≤ 3072) (hV : LayT V ld dr) (hM : LayM V) (hp : (ld = 4 ∧ dr = 210) ∨ (ld = 210 ∧ dr = 4)) (hR : RR M M ml ld m wn sn) (KK : NX g nm QF b Ln i xs) : At g (YLn nm) (EL g b Ln xs) QF V (249, 9132) 192 [some (.ref b), some (rf g 0), some (rf g 229), some (.int (nI i))] [] M ml := by
  obtain ⟨r, m1, m2, a1, a2, a3⟩ := SM.one (o1 := fun mi => f_X7_feed mi (xs (i + 1))) (o2 := fun mj => f_X8_feed mj (xs (i + 1))) hR (fun mi mj h => S_feed h _)
  refine a_aload iL_law_192 rfl <| l_arg (q := 1) iL_law_193 iL_law_194 iL_law_195 iL_law_196 iL_law_197 rfl rfl rfl hi (by omega) hLn <| ?_
  refine a_cVi iL_law_198 okX7_feed inX7_feed ⟨rfl, rfl⟩ (As := [.int (xs (i + 1))]) (lt_s0 hV) (c_X7_feed hV a1) rfl rfl (Nat.le_of_ble_eq_true rfl) ⟨Nat.le_of_ble_eq_true rfl, Nat.le_of_ble_eq_true rfl⟩ <| ?_
  refine a_aload iL_law_201 rfl <| l_arg (q := 1) iL_law_202 iL_law_203 iL_law_204 iL_law_205 iL_law_206 rfl rfl rfl hi (by omega) hLn <| ?_
  refine a_cVi iL_law_207 okX8_feed inX8_feed ⟨rfl, rfl⟩ (As := [.int (xs (i + 1))]) (lm_s229 hM) (c_X8_feed hM a2) rfl rfl (Nat.le_of_ble_eq_true rfl) ⟨Nat.le_of_ble_eq_true rfl, Nat.le_of_ble_eq_true rfl⟩ <| ?_
  refine a_icmp_eq iL_law_210 (fun _ => ?_) (fun h => absurd rfl h)
  exact KK V m2 ml ld dr m wn sn hV hM hp a3
theorem k_county {g : Gm} {nm : String} {QF : Qf} {V : Vw} {M : Mi} {ml : Ml} {b Ln i ld dr m wn sn : Nat} {xs : Nat → Int32} (hi : i + 6 ≤ Ln) (hLn : Ln ≤ 3072) (hV : LayT V ld dr) (hM : LayM V) (hp : (ld = 4 ∧ dr = 210) ∨ (ld = 210 ∧ dr = 4)) (hR : RR M M ml ld m wn sn) (KK : NX g nm QF b Ln i xs) : At g (YLn nm) (EL g b Ln xs) QF V (249, 9132) 215 [some (.ref b), some (rf g 0), some (rf g 229), some (.int (nI i))] [] M ml := by
  refine a_aload iL_law_215 rfl <| ?_
  rcases S_county hR hp with ⟨mi1, M2, mz, m', wn', sn', a1, a2, a3, a4, a5, a6⟩ | ⟨mi1, mz, a1, a3, a4, a5, a6⟩
  · have hR2 : RR M M2 ml ld m wn sn := hR.cg (fun _ _ => rfl) a5
    have e3 : ∃ (mz2 : Mi) (m2 wn2 sn2 : Nat), f_X8_county M2 = some (M2 dr 5, mz2) ∧ RR M2 mz2 ml dr m2 wn2 sn2 ∧ ∀ i, i < 229 → mz2 i = M2 i := by
      rcases S_county hR2 hp with ⟨ni1, N2, nz, m2, wn2, sn2, b1, b2, b3, b4, b5, b6⟩ | ⟨ni1, nz, b1, b3, b4, b5, b6⟩
      · rw [a1] at b1
        have e1 : mi1 = ni1 := congrArg Prod.snd (Option.some.inj b1)
        subst e1
        rw [a2] at b2
        have e2 : M2 = N2 := Option.some.inj b2
        subst e2
        exact ⟨nz, m2, wn2, sn2, b3, b4, b6⟩
      · rw [a1] at b1
        exact absurd (congrArg Prod.fst (Option.some.inj b1)) (show ¬ nI 1 = nI 0 by decide)
    obtain ⟨mz2, m2, wn2, sn2, c1, c2, c3⟩ := e3
    refine a_callV iL_law_216.1 okX7_county inX7_county iL_law_216.2 (As := []) (lt_s0 hV) (c_X7_countyG hV (by omega) (by omega) a1 a2) rfl rfl (Nat.le_of_ble_eq_true rfl) ⟨Nat.le_of_ble_eq_true rfl, Nat.le_of_ble_eq_true rfl⟩ ?_
    intro v V1 m1 l1 hpp
    obtain ⟨rfl, rfl, rfl, rfl⟩ := hpp
    refine a_aload iL_law_219 rfl <| ?_
    refine a_cVi iL_law_220 okX8_county inX8_county ⟨rfl, rfl⟩ (As := []) (lm_s229 (laym_sw hM)) (c_X8_county (laym_sw hM) c1) rfl rfl (Nat.le_of_ble_eq_true rfl) ⟨Nat.le_of_ble_eq_true rfl, Nat.le_of_ble_eq_true rfl⟩ <| ?_
    refine a_icmp_eq iL_law_223 (fun _ => ?_) (fun h => absurd rfl h)
    exact KK (sw V ld dr) mz2 _ dr ld m2 wn2 sn2 (hV.sw (by omega) (by omega)) (laym_sw hM) (by omega) (c2.cg c3 (fun _ _ => rfl))
  · have hR2 : RR M (u2 (u2 mi1 1 1 0) 0 10 (mi1 3 4)) ml ld m wn sn := hR.cg (fun _ _ => rfl) a5
    have e3 : ∃ mz2, f_X8_county (u2 (u2 mi1 1 1 0) 0 10 (mi1 3 4)) = some (-10 - mi1 3 3, mz2) ∧ RR (u2 (u2 mi1 1 1 0) 0 10 (mi1 3 4)) mz2 ml ld m wn sn ∧ ∀ i, i < 229 → mz2 i = (u2 (u2 mi1 1 1 0) 0 10 (mi1 3 4)) i := by
      rcases S_county hR2 hp with ⟨ni1, N2, nz, m2, wn2, sn2, b1, b2, b3, b4, b5, b6⟩ | ⟨ni1, nz, b1, b3, b4, b5, b6⟩
      · rw [a1] at b1
        exact absurd (congrArg Prod.fst (Option.some.inj b1)) (show ¬ nI 0 = nI 1 by decide)
      · rw [a1] at b1
        have e1 : mi1 = ni1 := congrArg Prod.snd (Option.some.inj b1)
        subst e1
        exact ⟨nz, b3, b4, b6⟩
    obtain ⟨mz2, c1, c2, c3⟩ := e3
    refine a_cVi iL_law_216 okX7_county inX7_county ⟨rfl, rfl⟩ (As := []) (lt_s0 hV) (c_X7_countyB hV a1) rfl rfl (Nat.le_of_ble_eq_true rfl) ⟨Nat.le_of_ble_eq_true rfl, Nat.le_of_ble_eq_true rfl⟩ <| ?_
    refine a_aload iL_law_219 rfl <| ?_
    refine a_cVi iL_law_220 okX8_county inX8_county ⟨rfl, rfl⟩ (As := []) (lm_s229 hM) (c_X8_county hM c1) rfl rfl (Nat.le_of_ble_eq_true rfl) ⟨Nat.le_of_ble_eq_true rfl, Nat.le_of_ble_eq_true rfl⟩ <| ?_
    refine a_icmp_eq iL_law_223 (fun _ => ?_) (fun h => absurd rfl h)
    exact KK V mz2 ml ld dr m wn sn hV hM hp (c2.cg c3 (fun _ _ => rfl))
theorem k_fault {g : Gm} {nm : String} {QF : Qf} {V : Vw} {M : Mi} {ml : Ml} {b Ln i ld dr m wn sn : Nat} {xs : Nat → Int32} (hi : i + 6 ≤ Ln) (hLn : Ln ≤ 3072) (hV : LayT V ld dr) (hM : LayM V) (hp : (ld = 4 ∧ dr = 210) ∨ (ld = 210 ∧ dr = 4)) (hR : RR M M ml ld m wn sn) (KK : NX g nm QF b Ln i xs) : At g (YLn nm) (EL g b Ln xs) QF V (249, 9132) 228 [some (.ref b), some (rf g 0), some (rf g 229), some (.int (nI i))] [] M ml := by
  obtain ⟨r, a1, a2⟩ := J_fault hR.2.2.1
  refine a_aload iL_law_228 rfl <| ?_
  refine a_cVi iL_law_229 okX7_fault inX7_fault ⟨rfl, rfl⟩ (As := []) (lt_s0 hV) (c_X7_fault hV a1) rfl rfl (Nat.le_of_ble_eq_true rfl) ⟨Nat.le_of_ble_eq_true rfl, Nat.le_of_ble_eq_true rfl⟩ <| ?_
  refine a_aload iL_law_232 rfl <| ?_
  refine a_cVi iL_law_233 okX8_fault inX8_fault ⟨rfl, rfl⟩ (As := []) (lm_s229 hM) (c_X8_fault hM a2) rfl rfl (Nat.le_of_ble_eq_true rfl) ⟨Nat.le_of_ble_eq_true rfl, Nat.le_of_ble_eq_true rfl⟩ <| ?_
  refine a_icmp_eq iL_law_236 (fun _ => ?_) (fun h => absurd rfl h)
  exact KK V M ml ld dr m wn sn hV hM hp hR
theorem k_told {g : Gm} {nm : String} {QF : Qf} {V : Vw} {M : Mi} {ml : Ml} {b Ln i ld dr m wn sn : Nat} {xs : Nat → Int32} (hi : i + 6 ≤ Ln) (hLn : Ln ≤ 3072) (hV : LayT V ld dr) (hM : LayM V) (hp : (ld = 4 ∧ dr = 210) ∨ (ld = 210 ∧ dr = 4)) (hR : RR M M ml ld m wn sn) (KK : NX g nm QF b Ln i xs) : At g (YLn nm) (EL g b Ln xs) QF V (249, 9132) 241 [some (.ref b), some (rf g 0), some (rf g 229), some (.int (nI i))] [] M ml := by
  obtain ⟨r, a1, a2⟩ := J_told hR.1.1 hR.1.2.1 hR.2.1 hR.1.2.2.1 hR.2.2.2.2.1 hR.2.2.2.2.2 (xs (i + 1))
  refine a_aload iL_law_241 rfl <| l_arg (q := 1) iL_law_242 iL_law_243 iL_law_244 iL_law_245 iL_law_246 rfl rfl rfl hi (by omega) hLn <| ?_
  refine a_cVi iL_law_247 okX7_told inX7_told ⟨rfl, rfl⟩ (As := [.int (xs (i + 1))]) (lt_s0 hV) (c_X7_told hV a1) rfl rfl (Nat.le_of_ble_eq_true rfl) ⟨Nat.le_of_ble_eq_true rfl, Nat.le_of_ble_eq_true rfl⟩ <| ?_
  refine a_aload iL_law_250 rfl <| l_arg (q := 1) iL_law_251 iL_law_252 iL_law_253 iL_law_254 iL_law_255 rfl rfl rfl hi (by omega) hLn <| ?_
  refine a_cVi iL_law_256 okX8_told inX8_told ⟨rfl, rfl⟩ (As := [.int (xs (i + 1))]) (lm_s229 hM) (c_X8_told hM a2) rfl rfl (Nat.le_of_ble_eq_true rfl) ⟨Nat.le_of_ble_eq_true rfl, Nat.le_of_ble_eq_true rfl⟩ <| ?_
  refine a_icmp_eq iL_law_259 (fun _ => ?_) (fun h => absurd rfl h)
  exact KK V M ml ld dr m wn sn hV hM hp hR
theorem k_heir {g : Gm} {nm : String} {QF : Qf} {V : Vw} {M : Mi} {ml : Ml} {b Ln i ld dr m wn sn : Nat} {xs : Nat → Int32} (hi : i + 6 ≤ Ln) (hLn : Ln ≤ 3072) (hV : LayT V ld dr) (hM : LayM V) (hp : (ld = 4 ∧ dr = 210) ∨ (ld = 210 ∧ dr = 4)) (hR : RR M M ml ld m wn sn) (KK : NX g nm QF b Ln i xs) : At g (YLn nm) (EL g b Ln xs) QF V (249, 9132) 264 [some (.ref b), some (rf g 0), some (rf g 229), some (.int (nI i))] [] M ml := by
  obtain ⟨r, a1, a2⟩ := J_heir hR.1.1 hR.1.2.1 (xs (i + 1)) (xs (i + 2))
  refine a_aload iL_law_264 rfl <| l_arg (q := 1) iL_law_265 iL_law_266 iL_law_267 iL_law_268 iL_law_269 rfl rfl rfl hi (by omega) hLn <| l_arg (q := 2) iL_law_270 iL_law_271 iL_law_272 iL_law_273 iL_law_274 rfl rfl rfl hi (by omega) hLn <| ?_
  refine a_cVi iL_law_275 okX7_heir inX7_heir ⟨rfl, rfl⟩ (As := [.int (xs (i + 1)), .int (xs (i + 2))]) (lt_s0 hV) (c_X7_heir hV a1) rfl rfl (Nat.le_of_ble_eq_true rfl) ⟨Nat.le_of_ble_eq_true rfl, Nat.le_of_ble_eq_true rfl⟩ <| ?_
  refine a_aload iL_law_278 rfl <| l_arg (q := 1) iL_law_279 iL_law_280 iL_law_281 iL_law_282 iL_law_283 rfl rfl rfl hi (by omega) hLn <| l_arg (q := 2) iL_law_284 iL_law_285 iL_law_286 iL_law_287 iL_law_288 rfl rfl rfl hi (by omega) hLn <| ?_
  refine a_cVi iL_law_289 okX8_heir inX8_heir ⟨rfl, rfl⟩ (As := [.int (xs (i + 1)), .int (xs (i + 2))]) (lm_s229 hM) (c_X8_heir hM a2) rfl rfl (Nat.le_of_ble_eq_true rfl) ⟨Nat.le_of_ble_eq_true rfl, Nat.le_of_ble_eq_true rfl⟩ <| ?_
  refine a_icmp_eq iL_law_292 (fun _ => ?_) (fun h => absurd rfl h)
  exact KK V M ml ld dr m wn sn hV hM hp hR
theorem k_thing {g : Gm} {nm : String} {QF : Qf} {V : Vw} {M : Mi} {ml : Ml} {b Ln i ld dr m wn sn : Nat} {xs : Nat → Int32} (hi : i + 6 ≤ Ln) (hLn : Ln ≤ 3072) (hV : LayT V ld dr) (hM : LayM V) (hp : (ld = 4 ∧ dr = 210) ∨ (ld = 210 ∧ dr = 4)) (hR : RR M M ml ld m wn sn) (KK : NX g nm QF b Ln i xs) : At g (YLn nm) (EL g b Ln xs) QF V (249, 9132) 297 [some (.ref b), some (rf g 0), some (rf g 229), some (.int (nI i))] [] M ml := by
  obtain ⟨r, a1, a2⟩ := J_thing hR.1.1 hR.1.2.1 (xs (i + 1)) (xs (i + 2))
  refine a_aload iL_law_297 rfl <| l_arg (q := 1) iL_law_298 iL_law_299 iL_law_300 iL_law_301 iL_law_302 rfl rfl rfl hi (by omega) hLn <| l_arg (q := 2) iL_law_303 iL_law_304 iL_law_305 iL_law_306 iL_law_307 rfl rfl rfl hi (by omega) hLn <| ?_
  refine a_cVi iL_law_308 okX7_thing inX7_thing ⟨rfl, rfl⟩ (As := [.int (xs (i + 1)), .int (xs (i + 2))]) (lt_s0 hV) (c_X7_thing hV a1) rfl rfl (Nat.le_of_ble_eq_true rfl) ⟨Nat.le_of_ble_eq_true rfl, Nat.le_of_ble_eq_true rfl⟩ <| ?_
  refine a_aload iL_law_311 rfl <| l_arg (q := 1) iL_law_312 iL_law_313 iL_law_314 iL_law_315 iL_law_316 rfl rfl rfl hi (by omega) hLn <| l_arg (q := 2) iL_law_317 iL_law_318 iL_law_319 iL_law_320 iL_law_321 rfl rfl rfl hi (by omega) hLn <| ?_
  refine a_cVi iL_law_322 okX8_thing inX8_thing ⟨rfl, rfl⟩ (As := [.int (xs (i + 1)), .int (xs (i + 2))]) (lm_s229 hM) (c_X8_thing hM a2) rfl rfl (Nat.le_of_ble_eq_true rfl) ⟨Nat.le_of_ble_eq_true rfl, Nat.le_of_ble_eq_true rfl⟩ <| ?_
  refine a_icmp_eq iL_law_325 (fun _ => ?_) (fun h => absurd rfl h)
  exact KK V M ml ld dr m wn sn hV hM hp hR
theorem k_want {g : Gm} {nm : String} {QF : Qf} {V : Vw} {M : Mi} {ml : Ml} {b Ln i ld dr m wn sn : Nat} {xs : Nat → Int32} (hi : i + 6 ≤ Ln) (hLn : Ln ≤ 3072) (hV : LayT V ld dr) (hM : LayM V) (hp : (ld = 4 ∧ dr = 210) ∨ (ld = 210 ∧ dr = 4)) (hR : RR M M ml ld m wn sn) (KK : NX g nm QF b Ln i xs) : At g (YLn nm) (EL g b Ln xs) QF V (249, 9132) 330 [some (.ref b), some (rf g 0), some (rf g 229), some (.int (nI i))] [] M ml := by
  obtain ⟨r, a1, a2⟩ := J_want hR.1.1 (xs (i + 1)) (xs (i + 2))
  refine a_aload iL_law_330 rfl <| l_arg (q := 1) iL_law_331 iL_law_332 iL_law_333 iL_law_334 iL_law_335 rfl rfl rfl hi (by omega) hLn <| l_arg (q := 2) iL_law_336 iL_law_337 iL_law_338 iL_law_339 iL_law_340 rfl rfl rfl hi (by omega) hLn <| ?_
  refine a_cVi iL_law_341 okX7_want inX7_want ⟨rfl, rfl⟩ (As := [.int (xs (i + 1)), .int (xs (i + 2))]) (lt_s0 hV) (c_X7_want hV a1) rfl rfl (Nat.le_of_ble_eq_true rfl) ⟨Nat.le_of_ble_eq_true rfl, Nat.le_of_ble_eq_true rfl⟩ <| ?_
  refine a_aload iL_law_344 rfl <| l_arg (q := 1) iL_law_345 iL_law_346 iL_law_347 iL_law_348 iL_law_349 rfl rfl rfl hi (by omega) hLn <| l_arg (q := 2) iL_law_350 iL_law_351 iL_law_352 iL_law_353 iL_law_354 rfl rfl rfl hi (by omega) hLn <| ?_
  refine a_cVi iL_law_355 okX8_want inX8_want ⟨rfl, rfl⟩ (As := [.int (xs (i + 1)), .int (xs (i + 2))]) (lm_s229 hM) (c_X8_want hM a2) rfl rfl (Nat.le_of_ble_eq_true rfl) ⟨Nat.le_of_ble_eq_true rfl, Nat.le_of_ble_eq_true rfl⟩ <| ?_
  refine a_icmp_eq iL_law_358 (fun _ => ?_) (fun h => absurd rfl h)
  exact KK V M ml ld dr m wn sn hV hM hp hR
theorem k_known {g : Gm} {nm : String} {QF : Qf} {V : Vw} {M : Mi} {ml : Ml} {b Ln i ld dr m wn sn : Nat} {xs : Nat → Int32} (hi : i + 6 ≤ Ln) (hLn : Ln ≤ 3072) (hV : LayT V ld dr) (hM : LayM V) (hp : (ld = 4 ∧ dr = 210) ∨ (ld = 210 ∧ dr = 4)) (hR : RR M M ml ld m wn sn) (KK : NX g nm QF b Ln i xs) : At g (YLn nm) (EL g b Ln xs) QF V (249, 9132) 363 [some (.ref b), some (rf g 0), some (rf g 229), some (.int (nI i))] [] M ml := by
  obtain ⟨r, a1, a2⟩ := J_known hR.1.1 hR.1.2.1 (xs (i + 1)) (xs (i + 2))
  refine a_aload iL_law_363 rfl <| l_arg (q := 1) iL_law_364 iL_law_365 iL_law_366 iL_law_367 iL_law_368 rfl rfl rfl hi (by omega) hLn <| l_arg (q := 2) iL_law_369 iL_law_370 iL_law_371 iL_law_372 iL_law_373 rfl rfl rfl hi (by omega) hLn <| ?_
  refine a_cVi iL_law_374 okX7_known inX7_known ⟨rfl, rfl⟩ (As := [.int (xs (i + 1)), .int (xs (i + 2))]) (lt_s0 hV) (c_X7_known hV a1) rfl rfl (Nat.le_of_ble_eq_true rfl) ⟨Nat.le_of_ble_eq_true rfl, Nat.le_of_ble_eq_true rfl⟩ <| ?_
  refine a_aload iL_law_377 rfl <| l_arg (q := 1) iL_law_378 iL_law_379 iL_law_380 iL_law_381 iL_law_382 rfl rfl rfl hi (by omega) hLn <| l_arg (q := 2) iL_law_383 iL_law_384 iL_law_385 iL_law_386 iL_law_387 rfl rfl rfl hi (by omega) hLn <| ?_
  refine a_cVi iL_law_388 okX8_known inX8_known ⟨rfl, rfl⟩ (As := [.int (xs (i + 1)), .int (xs (i + 2))]) (lm_s229 hM) (c_X8_known hM a2) rfl rfl (Nat.le_of_ble_eq_true rfl) ⟨Nat.le_of_ble_eq_true rfl, Nat.le_of_ble_eq_true rfl⟩ <| ?_
  refine a_icmp_eq iL_law_391 (fun _ => ?_) (fun h => absurd rfl h)
  exact KK V M ml ld dr m wn sn hV hM hp hR
theorem k_logged {g : Gm} {nm : String} {QF : Qf} {V : Vw} {M : Mi} {ml : Ml} {b Ln i ld dr m wn sn : Nat} {xs : Nat → Int32} (hi : i + 6 ≤ Ln) (hLn : Ln ≤ 3072) (hV : LayT V ld dr) (hM : LayM V) (hp : (ld = 4 ∧ dr = 210) ∨ (ld = 210 ∧ dr = 4)) (hR : RR M M ml ld m wn sn) (KK : NX g nm QF b Ln i xs) : At g (YLn nm) (EL g b Ln xs) QF V (249, 9132) 396 [some (.ref b), some (rf g 0), some (rf g 229), some (.int (nI i))] [] M ml := by
  obtain ⟨r, a1, a2⟩ := J_logged hR.1.2.1 (xs (i + 1)) (xs (i + 2))
  refine a_aload iL_law_396 rfl <| l_arg (q := 1) iL_law_397 iL_law_398 iL_law_399 iL_law_400 iL_law_401 rfl rfl rfl hi (by omega) hLn <| l_arg (q := 2) iL_law_402 iL_law_403 iL_law_404 iL_law_405 iL_law_406 rfl rfl rfl hi (by omega) hLn <| ?_
  refine a_cVi iL_law_407 okX7_logged inX7_logged ⟨rfl, rfl⟩ (As := [.int (xs (i + 1)), .int (xs (i + 2))]) (lt_s0 hV) (c_X7_logged hV a1) rfl rfl (Nat.le_of_ble_eq_true rfl) ⟨Nat.le_of_ble_eq_true rfl, Nat.le_of_ble_eq_true rfl⟩ <| ?_
  refine a_aload iL_law_410 rfl <| l_arg (q := 1) iL_law_411 iL_law_412 iL_law_413 iL_law_414 iL_law_415 rfl rfl rfl hi (by omega) hLn <| l_arg (q := 2) iL_law_416 iL_law_417 iL_law_418 iL_law_419 iL_law_420 rfl rfl rfl hi (by omega) hLn <| ?_
  refine a_cVi iL_law_421 okX8_logged inX8_logged ⟨rfl, rfl⟩ (As := [.int (xs (i + 1)), .int (xs (i + 2))]) (lm_s229 hM) (c_X8_logged hM a2) rfl rfl (Nat.le_of_ble_eq_true rfl) ⟨Nat.le_of_ble_eq_true rfl, Nat.le_of_ble_eq_true rfl⟩ <| ?_
  refine a_icmp_eq iL_law_424 (fun _ => ?_) (fun h => absurd rfl h)
  exact KK V M ml ld dr m wn sn hV hM hp hR
theorem k_hour {g : Gm} {nm : String} {QF : Qf} {V : Vw} {M : Mi} {ml : Ml} {b Ln i ld dr m wn sn : Nat} {xs : Nat → Int32} (hi : i + 6 ≤ Ln) (hLn : Ln ≤ 3072) (hV : LayT V ld dr) (hM : LayM V) (hp : (ld = 4 ∧ dr = 210) ∨ (ld = 210 ∧ dr = 4)) (hR : RR M M ml ld m wn sn) (KK : NX g nm QF b Ln i xs) : At g (YLn nm) (EL g b Ln xs) QF V (249, 9132) 429 [some (.ref b), some (rf g 0), some (rf g 229), some (.int (nI i))] [] M ml := by
  obtain ⟨r, m1, m2, a1, a2, a3⟩ := SM.one (o1 := fun mi => f_X7_hour mi ld (xs (i + 1))) (o2 := fun mj => f_X8_hour mj (xs (i + 1))) hR (fun mi mj h => S_hour h _)
  refine a_aload iL_law_429 rfl <| l_arg (q := 1) iL_law_430 iL_law_431 iL_law_432 iL_law_433 iL_law_434 rfl rfl rfl hi (by omega) hLn <| ?_
  refine a_cVi iL_law_435 okX7_hour inX7_hour ⟨rfl, rfl⟩ (As := [.int (xs (i + 1))]) (lt_s0 hV) (c_X7_hour hV a1) rfl rfl (Nat.le_of_ble_eq_true rfl) ⟨Nat.le_of_ble_eq_true rfl, Nat.le_of_ble_eq_true rfl⟩ <| ?_
  refine a_aload iL_law_438 rfl <| l_arg (q := 1) iL_law_439 iL_law_440 iL_law_441 iL_law_442 iL_law_443 rfl rfl rfl hi (by omega) hLn <| ?_
  refine a_cVi iL_law_444 okX8_hour inX8_hour ⟨rfl, rfl⟩ (As := [.int (xs (i + 1))]) (lm_s229 hM) (c_X8_hour hM a2) rfl rfl (Nat.le_of_ble_eq_true rfl) ⟨Nat.le_of_ble_eq_true rfl, Nat.le_of_ble_eq_true rfl⟩ <| ?_
  refine a_icmp_eq iL_law_447 (fun _ => ?_) (fun h => absurd rfl h)
  exact KK V m2 ml ld dr m wn sn hV hM hp a3
theorem k_put {g : Gm} {nm : String} {QF : Qf} {V : Vw} {M : Mi} {ml : Ml} {b Ln i ld dr m wn sn : Nat} {xs : Nat → Int32} (hi : i + 6 ≤ Ln) (hLn : Ln ≤ 3072) (hV : LayT V ld dr) (hM : LayM V) (hp : (ld = 4 ∧ dr = 210) ∨ (ld = 210 ∧ dr = 4)) (hR : RR M M ml ld m wn sn) (KK : NX g nm QF b Ln i xs) : At g (YLn nm) (EL g b Ln xs) QF V (249, 9132) 452 [some (.ref b), some (rf g 0), some (rf g 229), some (.int (nI i))] [] M ml := by
  obtain ⟨r, m1, m2, a1, a2, a3⟩ := SM.one (o1 := fun mi => f_X7_put mi ld (xs (i + 1)) (xs (i + 2))) (o2 := fun mj => f_X8_put mj (xs (i + 1)) (xs (i + 2))) hR (fun mi mj h => S_put h _ _)
  refine a_aload iL_law_452 rfl <| l_arg (q := 1) iL_law_453 iL_law_454 iL_law_455 iL_law_456 iL_law_457 rfl rfl rfl hi (by omega) hLn <| l_arg (q := 2) iL_law_458 iL_law_459 iL_law_460 iL_law_461 iL_law_462 rfl rfl rfl hi (by omega) hLn <| ?_
  refine a_cVi iL_law_463 okX7_put inX7_put ⟨rfl, rfl⟩ (As := [.int (xs (i + 1)), .int (xs (i + 2))]) (lt_s0 hV) (c_X7_put hV a1) rfl rfl (Nat.le_of_ble_eq_true rfl) ⟨Nat.le_of_ble_eq_true rfl, Nat.le_of_ble_eq_true rfl⟩ <| ?_
  refine a_aload iL_law_466 rfl <| l_arg (q := 1) iL_law_467 iL_law_468 iL_law_469 iL_law_470 iL_law_471 rfl rfl rfl hi (by omega) hLn <| l_arg (q := 2) iL_law_472 iL_law_473 iL_law_474 iL_law_475 iL_law_476 rfl rfl rfl hi (by omega) hLn <| ?_
  refine a_cVi iL_law_477 okX8_put inX8_put ⟨rfl, rfl⟩ (As := [.int (xs (i + 1)), .int (xs (i + 2))]) (lm_s229 hM) (c_X8_put hM a2) rfl rfl (Nat.le_of_ble_eq_true rfl) ⟨Nat.le_of_ble_eq_true rfl, Nat.le_of_ble_eq_true rfl⟩ <| ?_
  refine a_icmp_eq iL_law_480 (fun _ => ?_) (fun h => absurd rfl h)
  exact KK V m2 ml ld dr m wn sn hV hM hp a3
theorem k_note {g : Gm} {nm : String} {QF : Qf} {V : Vw} {M : Mi} {ml : Ml} {b Ln i ld dr m wn sn : Nat} {xs : Nat → Int32} (hi : i + 6 ≤ Ln) (hLn : Ln ≤ 3072) (hV : LayT V ld dr) (hM : LayM V) (hp : (ld = 4 ∧ dr = 210) ∨ (ld = 210 ∧ dr = 4)) (hR : RR M M ml ld m wn sn) (KK : NX g nm QF b Ln i xs) : At g (YLn nm) (EL g b Ln xs) QF V (249, 9132) 485 [some (.ref b), some (rf g 0), some (rf g 229), some (.int (nI i))] [] M ml := by
  obtain ⟨r, m1, m2, a1, a2, a3⟩ := SM.one (o1 := fun mi => f_X7_note mi ld (xs (i + 1)) (xs (i + 2))) (o2 := fun mj => f_X8_note mj (xs (i + 1)) (xs (i + 2))) hR (fun mi mj h => S_note h _ _)
  refine a_aload iL_law_485 rfl <| l_arg (q := 1) iL_law_486 iL_law_487 iL_law_488 iL_law_489 iL_law_490 rfl rfl rfl hi (by omega) hLn <| l_arg (q := 2) iL_law_491 iL_law_492 iL_law_493 iL_law_494 iL_law_495 rfl rfl rfl hi (by omega) hLn <| ?_
  refine a_cVi iL_law_496 okX7_note inX7_note ⟨rfl, rfl⟩ (As := [.int (xs (i + 1)), .int (xs (i + 2))]) (lt_s0 hV) (c_X7_note hV a1) rfl rfl (Nat.le_of_ble_eq_true rfl) ⟨Nat.le_of_ble_eq_true rfl, Nat.le_of_ble_eq_true rfl⟩ <| ?_
  refine a_aload iL_law_499 rfl <| l_arg (q := 1) iL_law_500 iL_law_501 iL_law_502 iL_law_503 iL_law_504 rfl rfl rfl hi (by omega) hLn <| l_arg (q := 2) iL_law_505 iL_law_506 iL_law_507 iL_law_508 iL_law_509 rfl rfl rfl hi (by omega) hLn <| ?_
  refine a_cVi iL_law_510 okX8_note inX8_note ⟨rfl, rfl⟩ (As := [.int (xs (i + 1)), .int (xs (i + 2))]) (lm_s229 hM) (c_X8_note hM a2) rfl rfl (Nat.le_of_ble_eq_true rfl) ⟨Nat.le_of_ble_eq_true rfl, Nat.le_of_ble_eq_true rfl⟩ <| ?_
  refine a_icmp_eq iL_law_513 (fun _ => ?_) (fun h => absurd rfl h)
  exact KK V m2 ml ld dr m wn sn hV hM hp a3
theorem k_eclipse {g : Gm} {nm : String} {QF : Qf} {V : Vw} {M : Mi} {ml : Ml} {b Ln i ld dr m wn sn : Nat} {xs : Nat → Int32} (hi : i + 6 ≤ Ln) (hLn : Ln ≤ 3072) (hV : LayT V ld dr) (hM : LayM V) (hp : (ld = 4 ∧ dr = 210) ∨ (ld = 210 ∧ dr = 4)) (hR : RR M M ml ld m wn sn) (KK : NX g nm QF b Ln i xs) : At g (YLn nm) (EL g b Ln xs) QF V (249, 9132) 518 [some (.ref b), some (rf g 0), some (rf g 229), some (.int (nI i))] [] M ml := by
  obtain ⟨r, m1, m2, a1, a2, a3⟩ := SM.one (o1 := fun mi => f_X7_eclipse mi ld (xs (i + 1))) (o2 := fun mj => f_X8_eclipse mj (xs (i + 1))) hR (fun mi mj h => S_eclipse h _)
  refine a_aload iL_law_518 rfl <| l_arg (q := 1) iL_law_519 iL_law_520 iL_law_521 iL_law_522 iL_law_523 rfl rfl rfl hi (by omega) hLn <| ?_
  refine a_cVi iL_law_524 okX7_eclipse inX7_eclipse ⟨rfl, rfl⟩ (As := [.int (xs (i + 1))]) (lt_s0 hV) (c_X7_eclipse hV a1) rfl rfl (Nat.le_of_ble_eq_true rfl) ⟨Nat.le_of_ble_eq_true rfl, Nat.le_of_ble_eq_true rfl⟩ <| ?_
  refine a_aload iL_law_527 rfl <| l_arg (q := 1) iL_law_528 iL_law_529 iL_law_530 iL_law_531 iL_law_532 rfl rfl rfl hi (by omega) hLn <| ?_
  refine a_cVi iL_law_533 okX8_eclipse inX8_eclipse ⟨rfl, rfl⟩ (As := [.int (xs (i + 1))]) (lm_s229 hM) (c_X8_eclipse hM a2) rfl rfl (Nat.le_of_ble_eq_true rfl) ⟨Nat.le_of_ble_eq_true rfl, Nat.le_of_ble_eq_true rfl⟩ <| ?_
  refine a_icmp_eq iL_law_536 (fun _ => ?_) (fun h => absurd rfl h)
  exact KK V m2 ml ld dr m wn sn hV hM hp a3
theorem k_drift {g : Gm} {nm : String} {QF : Qf} {V : Vw} {M : Mi} {ml : Ml} {b Ln i ld dr m wn sn : Nat} {xs : Nat → Int32} (hi : i + 6 ≤ Ln) (hLn : Ln ≤ 3072) (hV : LayT V ld dr) (hM : LayM V) (hp : (ld = 4 ∧ dr = 210) ∨ (ld = 210 ∧ dr = 4)) (hR : RR M M ml ld m wn sn) (KK : NX g nm QF b Ln i xs) : At g (YLn nm) (EL g b Ln xs) QF V (249, 9132) 541 [some (.ref b), some (rf g 0), some (rf g 229), some (.int (nI i))] [] M ml := by
  obtain ⟨r, m1, m2, l2, a1, a2, a3⟩ := SO.one (o1 := fun mi => f_X7_drift mi ld (xs (i + 1))) (o2 := fun mj => f_X8_drift mj ml (xs (i + 1))) hR (fun mi mj h => S_drift h _)
  refine a_aload iL_law_541 rfl <| l_arg (q := 1) iL_law_542 iL_law_543 iL_law_544 iL_law_545 iL_law_546 rfl rfl rfl hi (by omega) hLn <| ?_
  refine a_cVi iL_law_547 okX7_drift inX7_drift ⟨rfl, rfl⟩ (As := [.int (xs (i + 1))]) (lt_s0 hV) (c_X7_drift hV a1) rfl rfl (Nat.le_of_ble_eq_true rfl) ⟨Nat.le_of_ble_eq_true rfl, Nat.le_of_ble_eq_true rfl⟩ <| ?_
  refine a_aload iL_law_550 rfl <| l_arg (q := 1) iL_law_551 iL_law_552 iL_law_553 iL_law_554 iL_law_555 rfl rfl rfl hi (by omega) hLn <| ?_
  refine a_cVi iL_law_556 okX8_drift inX8_drift ⟨rfl, rfl⟩ (As := [.int (xs (i + 1))]) (lm_s229 hM) (c_X8_drift hM a2) rfl rfl (Nat.le_of_ble_eq_true rfl) ⟨Nat.le_of_ble_eq_true rfl, Nat.le_of_ble_eq_true rfl⟩ <| ?_
  refine a_icmp_eq iL_law_559 (fun _ => ?_) (fun h => absurd rfl h)
  exact KK V m2 l2 ld dr m wn sn hV hM hp a3
theorem k_undo {g : Gm} {nm : String} {QF : Qf} {V : Vw} {M : Mi} {ml : Ml} {b Ln i ld dr m wn sn : Nat} {xs : Nat → Int32} (hi : i + 6 ≤ Ln) (hLn : Ln ≤ 3072) (hV : LayT V ld dr) (hM : LayM V) (hp : (ld = 4 ∧ dr = 210) ∨ (ld = 210 ∧ dr = 4)) (hR : RR M M ml ld m wn sn) (KK : NX g nm QF b Ln i xs) : At g (YLn nm) (EL g b Ln xs) QF V (249, 9132) 564 [some (.ref b), some (rf g 0), some (rf g 229), some (.int (nI i))] [] M ml := by
  obtain ⟨r, m1, m2, a1, a2, a3⟩ := SM.one (o1 := fun mi => f_X7_undo mi (xs (i + 1))) (o2 := fun mj => f_X8_undo mj (xs (i + 1))) hR (fun mi mj h => S_undo h _)
  refine a_aload iL_law_564 rfl <| l_arg (q := 1) iL_law_565 iL_law_566 iL_law_567 iL_law_568 iL_law_569 rfl rfl rfl hi (by omega) hLn <| ?_
  refine a_cVi iL_law_570 okX7_undo inX7_undo ⟨rfl, rfl⟩ (As := [.int (xs (i + 1))]) (lt_s0 hV) (c_X7_undo hV a1) rfl rfl (Nat.le_of_ble_eq_true rfl) ⟨Nat.le_of_ble_eq_true rfl, Nat.le_of_ble_eq_true rfl⟩ <| ?_
  refine a_aload iL_law_573 rfl <| l_arg (q := 1) iL_law_574 iL_law_575 iL_law_576 iL_law_577 iL_law_578 rfl rfl rfl hi (by omega) hLn <| ?_
  refine a_cVi iL_law_579 okX8_undo inX8_undo ⟨rfl, rfl⟩ (As := [.int (xs (i + 1))]) (lm_s229 hM) (c_X8_undo hM a2) rfl rfl (Nat.le_of_ble_eq_true rfl) ⟨Nat.le_of_ble_eq_true rfl, Nat.le_of_ble_eq_true rfl⟩ <| ?_
  refine a_icmp_eq iL_law_582 (fun _ => ?_) (fun h => absurd rfl h)
  exact KK V m2 ml ld dr m wn sn hV hM hp a3
theorem k_whose {g : Gm} {nm : String} {QF : Qf} {V : Vw} {M : Mi} {ml : Ml} {b Ln i ld dr m wn sn : Nat} {xs : Nat → Int32} (hi : i + 6 ≤ Ln) (hLn : Ln ≤ 3072) (hV : LayT V ld dr) (hM : LayM V) (hp : (ld = 4 ∧ dr = 210) ∨ (ld = 210 ∧ dr = 4)) (hR : RR M M ml ld m wn sn) (KK : NX g nm QF b Ln i xs) : At g (YLn nm) (EL g b Ln xs) QF V (249, 9132) 587 [some (.ref b), some (rf g 0), some (rf g 229), some (.int (nI i))] [] M ml := by
  obtain ⟨r, a1, a2⟩ := J_whose hR.1.1 hR.1.2.1 (xs (i + 1))
  refine a_aload iL_law_587 rfl <| l_arg (q := 1) iL_law_588 iL_law_589 iL_law_590 iL_law_591 iL_law_592 rfl rfl rfl hi (by omega) hLn <| ?_
  refine a_cVi iL_law_593 okX7_whose inX7_whose ⟨rfl, rfl⟩ (As := [.int (xs (i + 1))]) (lt_s0 hV) (c_X7_whose hV a1) rfl rfl (Nat.le_of_ble_eq_true rfl) ⟨Nat.le_of_ble_eq_true rfl, Nat.le_of_ble_eq_true rfl⟩ <| ?_
  refine a_aload iL_law_596 rfl <| l_arg (q := 1) iL_law_597 iL_law_598 iL_law_599 iL_law_600 iL_law_601 rfl rfl rfl hi (by omega) hLn <| ?_
  refine a_cVi iL_law_602 okX8_whose inX8_whose ⟨rfl, rfl⟩ (As := [.int (xs (i + 1))]) (lm_s229 hM) (c_X8_whose hM a2) rfl rfl (Nat.le_of_ble_eq_true rfl) ⟨Nat.le_of_ble_eq_true rfl, Nat.le_of_ble_eq_true rfl⟩ <| ?_
  refine a_icmp_eq iL_law_605 (fun _ => ?_) (fun h => absurd rfl h)
  exact KK V M ml ld dr m wn sn hV hM hp hR
theorem k_gets {g : Gm} {nm : String} {QF : Qf} {V : Vw} {M : Mi} {ml : Ml} {b Ln i ld dr m wn sn : Nat} {xs : Nat → Int32} (hi : i + 6 ≤ Ln) (hLn : Ln ≤ 3072) (hV : LayT V ld dr) (hM : LayM V) (hp : (ld = 4 ∧ dr = 210) ∨ (ld = 210 ∧ dr = 4)) (hR : RR M M ml ld m wn sn) (KK : NX g nm QF b Ln i xs) : At g (YLn nm) (EL g b Ln xs) QF V (249, 9132) 610 [some (.ref b), some (rf g 0), some (rf g 229), some (.int (nI i))] [] M ml := by
  obtain ⟨r, a1, a2⟩ := J_gets hR.1.1 hR.1.2.1 (xs (i + 1)) (xs (i + 2))
  refine a_aload iL_law_610 rfl <| l_arg (q := 1) iL_law_611 iL_law_612 iL_law_613 iL_law_614 iL_law_615 rfl rfl rfl hi (by omega) hLn <| l_arg (q := 2) iL_law_616 iL_law_617 iL_law_618 iL_law_619 iL_law_620 rfl rfl rfl hi (by omega) hLn <| ?_
  refine a_cVi iL_law_621 okX7_gets inX7_gets ⟨rfl, rfl⟩ (As := [.int (xs (i + 1)), .int (xs (i + 2))]) (lt_s0 hV) (c_X7_gets hV a1) rfl rfl (Nat.le_of_ble_eq_true rfl) ⟨Nat.le_of_ble_eq_true rfl, Nat.le_of_ble_eq_true rfl⟩ <| ?_
  refine a_aload iL_law_624 rfl <| l_arg (q := 1) iL_law_625 iL_law_626 iL_law_627 iL_law_628 iL_law_629 rfl rfl rfl hi (by omega) hLn <| l_arg (q := 2) iL_law_630 iL_law_631 iL_law_632 iL_law_633 iL_law_634 rfl rfl rfl hi (by omega) hLn <| ?_
  refine a_cVi iL_law_635 okX8_gets inX8_gets ⟨rfl, rfl⟩ (As := [.int (xs (i + 1)), .int (xs (i + 2))]) (lm_s229 hM) (c_X8_gets hM a2) rfl rfl (Nat.le_of_ble_eq_true rfl) ⟨Nat.le_of_ble_eq_true rfl, Nat.le_of_ble_eq_true rfl⟩ <| ?_
  refine a_icmp_eq iL_law_638 (fun _ => ?_) (fun h => absurd rfl h)
  exact KK V M ml ld dr m wn sn hV hM hp hR
theorem k_willBe {g : Gm} {nm : String} {QF : Qf} {V : Vw} {M : Mi} {ml : Ml} {b Ln i ld dr m wn sn : Nat} {xs : Nat → Int32} (hi : i + 6 ≤ Ln) (hLn : Ln ≤ 3072) (hV : LayT V ld dr) (hM : LayM V) (hp : (ld = 4 ∧ dr = 210) ∨ (ld = 210 ∧ dr = 4)) (hR : RR M M ml ld m wn sn) (KK : NX g nm QF b Ln i xs) : At g (YLn nm) (EL g b Ln xs) QF V (249, 9132) 643 [some (.ref b), some (rf g 0), some (rf g 229), some (.int (nI i))] [] M ml := by
  obtain ⟨r, a1, a2⟩ := J_willBe hR.1.1 hR.1.2.1 (xs (i + 1)) (xs (i + 2))
  refine a_aload iL_law_643 rfl <| l_arg (q := 1) iL_law_644 iL_law_645 iL_law_646 iL_law_647 iL_law_648 rfl rfl rfl hi (by omega) hLn <| l_arg (q := 2) iL_law_649 iL_law_650 iL_law_651 iL_law_652 iL_law_653 rfl rfl rfl hi (by omega) hLn <| ?_
  refine a_cVi iL_law_654 okX7_willBe inX7_willBe ⟨rfl, rfl⟩ (As := [.int (xs (i + 1)), .int (xs (i + 2))]) (lt_s0 hV) (c_X7_willBe hV a1) rfl rfl (Nat.le_of_ble_eq_true rfl) ⟨Nat.le_of_ble_eq_true rfl, Nat.le_of_ble_eq_true rfl⟩ <| ?_
  refine a_aload iL_law_657 rfl <| l_arg (q := 1) iL_law_658 iL_law_659 iL_law_660 iL_law_661 iL_law_662 rfl rfl rfl hi (by omega) hLn <| l_arg (q := 2) iL_law_663 iL_law_664 iL_law_665 iL_law_666 iL_law_667 rfl rfl rfl hi (by omega) hLn <| ?_
  refine a_cVi iL_law_668 okX8_willBe inX8_willBe ⟨rfl, rfl⟩ (As := [.int (xs (i + 1)), .int (xs (i + 2))]) (lm_s229 hM) (c_X8_willBe hM a2) rfl rfl (Nat.le_of_ble_eq_true rfl) ⟨Nat.le_of_ble_eq_true rfl, Nat.le_of_ble_eq_true rfl⟩ <| ?_
  refine a_icmp_eq iL_law_671 (fun _ => ?_) (fun h => absurd rfl h)
  exact KK V M ml ld dr m wn sn hV hM hp hR
theorem k_next {g : Gm} {nm : String} {QF : Qf} {V : Vw} {M : Mi} {ml : Ml} {b Ln i ld dr m wn sn : Nat} {xs : Nat → Int32} (hi : i + 6 ≤ Ln) (hLn : Ln ≤ 3072) (hV : LayT V ld dr) (hM : LayM V) (hp : (ld = 4 ∧ dr = 210) ∨ (ld = 210 ∧ dr = 4)) (hR : RR M M ml ld m wn sn) (KK : NX g nm QF b Ln i xs) : At g (YLn nm) (EL g b Ln xs) QF V (249, 9132) 676 [some (.ref b), some (rf g 0), some (rf g 229), some (.int (nI i))] [] M ml := by
  obtain ⟨r, a1, a2⟩ := J_next hR.1.1 hR.1.2.1 (xs (i + 1))
  refine a_aload iL_law_676 rfl <| l_arg (q := 1) iL_law_677 iL_law_678 iL_law_679 iL_law_680 iL_law_681 rfl rfl rfl hi (by omega) hLn <| ?_
  refine a_cVi iL_law_682 okX7_next inX7_next ⟨rfl, rfl⟩ (As := [.int (xs (i + 1))]) (lt_s0 hV) (c_X7_next hV a1) rfl rfl (Nat.le_of_ble_eq_true rfl) ⟨Nat.le_of_ble_eq_true rfl, Nat.le_of_ble_eq_true rfl⟩ <| ?_
  refine a_aload iL_law_685 rfl <| l_arg (q := 1) iL_law_686 iL_law_687 iL_law_688 iL_law_689 iL_law_690 rfl rfl rfl hi (by omega) hLn <| ?_
  refine a_cVi iL_law_691 okX8_next inX8_next ⟨rfl, rfl⟩ (As := [.int (xs (i + 1))]) (lm_s229 hM) (c_X8_next hM a2) rfl rfl (Nat.le_of_ble_eq_true rfl) ⟨Nat.le_of_ble_eq_true rfl, Nat.le_of_ble_eq_true rfl⟩ <| ?_
  refine a_icmp_eq iL_law_694 (fun _ => ?_) (fun h => absurd rfl h)
  exact KK V M ml ld dr m wn sn hV hM hp hR
theorem k_keepSo {g : Gm} {nm : String} {QF : Qf} {V : Vw} {M : Mi} {ml : Ml} {b Ln i ld dr m wn sn : Nat} {xs : Nat → Int32} (hi : i + 6 ≤ Ln) (hLn : Ln ≤ 3072) (hV : LayT V ld dr) (hM : LayM V) (hp : (ld = 4 ∧ dr = 210) ∨ (ld = 210 ∧ dr = 4)) (hR : RR M M ml ld m wn sn) (KK : NX g nm QF b Ln i xs) : At g (YLn nm) (EL g b Ln xs) QF V (249, 9132) 699 [some (.ref b), some (rf g 0), some (rf g 229), some (.int (nI i))] [] M ml := by
  obtain ⟨r, a1, a2⟩ := J_keepSo hR.1.1 hR.1.2.1 (xs (i + 1)) (xs (i + 2)) (xs (i + 3)) (xs (i + 4)) (xs (i + 5))
  refine a_aload iL_law_699 rfl <| l_arg (q := 1) iL_law_700 iL_law_701 iL_law_702 iL_law_703 iL_law_704 rfl rfl rfl hi (by omega) hLn <| l_arg (q := 2) iL_law_705 iL_law_706 iL_law_707 iL_law_708 iL_law_709 rfl rfl rfl hi (by omega) hLn <| l_arg (q := 3) iL_law_710 iL_law_711 iL_law_712 iL_law_713 iL_law_714 rfl rfl rfl hi (by omega) hLn <| l_arg (q := 4) iL_law_715 iL_law_716 iL_law_717 iL_law_718 iL_law_719 rfl rfl rfl hi (by omega) hLn <| l_arg (q := 5) iL_law_720 iL_law_721 iL_law_722 iL_law_723 iL_law_724 rfl rfl rfl hi (by omega) hLn <| ?_
  refine a_cVi iL_law_725 okX7_keepSo inX7_keepSo ⟨rfl, rfl⟩ (As := [.int (xs (i + 1)), .int (xs (i + 2)), .int (xs (i + 3)), .int (xs (i + 4)), .int (xs (i + 5))]) (lt_s0 hV) (c_X7_keepSo hV a1) rfl rfl (Nat.le_of_ble_eq_true rfl) ⟨Nat.le_of_ble_eq_true rfl, Nat.le_of_ble_eq_true rfl⟩ <| ?_
  refine a_aload iL_law_728 rfl <| l_arg (q := 1) iL_law_729 iL_law_730 iL_law_731 iL_law_732 iL_law_733 rfl rfl rfl hi (by omega) hLn <| l_arg (q := 2) iL_law_734 iL_law_735 iL_law_736 iL_law_737 iL_law_738 rfl rfl rfl hi (by omega) hLn <| l_arg (q := 3) iL_law_739 iL_law_740 iL_law_741 iL_law_742 iL_law_743 rfl rfl rfl hi (by omega) hLn <| l_arg (q := 4) iL_law_744 iL_law_745 iL_law_746 iL_law_747 iL_law_748 rfl rfl rfl hi (by omega) hLn <| l_arg (q := 5) iL_law_749 iL_law_750 iL_law_751 iL_law_752 iL_law_753 rfl rfl rfl hi (by omega) hLn <| ?_
  refine a_cVi iL_law_754 okX8_keepSo inX8_keepSo ⟨rfl, rfl⟩ (As := [.int (xs (i + 1)), .int (xs (i + 2)), .int (xs (i + 3)), .int (xs (i + 4)), .int (xs (i + 5))]) (lm_s229 hM) (c_X8_keepSo hM a2) rfl rfl (Nat.le_of_ble_eq_true rfl) ⟨Nat.le_of_ble_eq_true rfl, Nat.le_of_ble_eq_true rfl⟩ <| ?_
  refine a_icmp_eq iL_law_757 (fun _ => ?_) (fun h => absurd rfl h)
  exact KK V M ml ld dr m wn sn hV hM hp hR
theorem k_agreed {g : Gm} {nm : String} {QF : Qf} {V : Vw} {M : Mi} {ml : Ml} {b Ln i ld dr m wn sn : Nat} {xs : Nat → Int32} (hi : i + 6 ≤ Ln) (hLn : Ln ≤ 3072) (hV : LayT V ld dr) (hM : LayM V) (hp : (ld = 4 ∧ dr = 210) ∨ (ld = 210 ∧ dr = 4)) (hR : RR M M ml ld m wn sn) (KK : NX g nm QF b Ln i xs) : At g (YLn nm) (EL g b Ln xs) QF V (249, 9132) 762 [some (.ref b), some (rf g 0), some (rf g 229), some (.int (nI i))] [] M ml := by
  obtain ⟨r, a1, a2⟩ := J_agreed hR.1.1 (xs (i + 1))
  refine a_aload iL_law_762 rfl <| l_arg (q := 1) iL_law_763 iL_law_764 iL_law_765 iL_law_766 iL_law_767 rfl rfl rfl hi (by omega) hLn <| ?_
  refine a_cVi iL_law_768 okX7_agreed inX7_agreed ⟨rfl, rfl⟩ (As := [.int (xs (i + 1))]) (lt_s0 hV) (c_X7_agreed hV a1) rfl rfl (Nat.le_of_ble_eq_true rfl) ⟨Nat.le_of_ble_eq_true rfl, Nat.le_of_ble_eq_true rfl⟩ <| ?_
  refine a_aload iL_law_771 rfl <| l_arg (q := 1) iL_law_772 iL_law_773 iL_law_774 iL_law_775 iL_law_776 rfl rfl rfl hi (by omega) hLn <| ?_
  refine a_cVi iL_law_777 okX8_agreed inX8_agreed ⟨rfl, rfl⟩ (As := [.int (xs (i + 1))]) (lm_s229 hM) (c_X8_agreed hM a2) rfl rfl (Nat.le_of_ble_eq_true rfl) ⟨Nat.le_of_ble_eq_true rfl, Nat.le_of_ble_eq_true rfl⟩ <| ?_
  refine a_icmp_eq iL_law_780 (fun _ => ?_) (fun h => absurd rfl h)
  exact KK V M ml ld dr m wn sn hV hM hp hR
theorem k_against {g : Gm} {nm : String} {QF : Qf} {V : Vw} {M : Mi} {ml : Ml} {b Ln i ld dr m wn sn : Nat} {xs : Nat → Int32} (hi : i + 6 ≤ Ln) (hLn : Ln ≤ 3072) (hV : LayT V ld dr) (hM : LayM V) (hp : (ld = 4 ∧ dr = 210) ∨ (ld = 210 ∧ dr = 4)) (hR : RR M M ml ld m wn sn) (KK : NX g nm QF b Ln i xs) : At g (YLn nm) (EL g b Ln xs) QF V (249, 9132) 785 [some (.ref b), some (rf g 0), some (rf g 229), some (.int (nI i))] [] M ml := by
  obtain ⟨r, a1, a2⟩ := J_against hR.1.1 (xs (i + 1)) (xs (i + 2))
  refine a_aload iL_law_785 rfl <| l_arg (q := 1) iL_law_786 iL_law_787 iL_law_788 iL_law_789 iL_law_790 rfl rfl rfl hi (by omega) hLn <| l_arg (q := 2) iL_law_791 iL_law_792 iL_law_793 iL_law_794 iL_law_795 rfl rfl rfl hi (by omega) hLn <| ?_
  refine a_cVi iL_law_796 okX7_against inX7_against ⟨rfl, rfl⟩ (As := [.int (xs (i + 1)), .int (xs (i + 2))]) (lt_s0 hV) (c_X7_against hV a1) rfl rfl (Nat.le_of_ble_eq_true rfl) ⟨Nat.le_of_ble_eq_true rfl, Nat.le_of_ble_eq_true rfl⟩ <| ?_
  refine a_aload iL_law_799 rfl <| l_arg (q := 1) iL_law_800 iL_law_801 iL_law_802 iL_law_803 iL_law_804 rfl rfl rfl hi (by omega) hLn <| l_arg (q := 2) iL_law_805 iL_law_806 iL_law_807 iL_law_808 iL_law_809 rfl rfl rfl hi (by omega) hLn <| ?_
  refine a_cVi iL_law_810 okX8_against inX8_against ⟨rfl, rfl⟩ (As := [.int (xs (i + 1)), .int (xs (i + 2))]) (lm_s229 hM) (c_X8_against hM a2) rfl rfl (Nat.le_of_ble_eq_true rfl) ⟨Nat.le_of_ble_eq_true rfl, Nat.le_of_ble_eq_true rfl⟩ <| ?_
  refine a_icmp_eq iL_law_813 (fun _ => ?_) (fun h => absurd rfl h)
  exact KK V M ml ld dr m wn sn hV hM hp hR
theorem k_movers {g : Gm} {nm : String} {QF : Qf} {V : Vw} {M : Mi} {ml : Ml} {b Ln i ld dr m wn sn : Nat} {xs : Nat → Int32} (hi : i + 6 ≤ Ln) (hLn : Ln ≤ 3072) (hV : LayT V ld dr) (hM : LayM V) (hp : (ld = 4 ∧ dr = 210) ∨ (ld = 210 ∧ dr = 4)) (hR : RR M M ml ld m wn sn) (KK : NX g nm QF b Ln i xs) : At g (YLn nm) (EL g b Ln xs) QF V (249, 9132) 818 [some (.ref b), some (rf g 0), some (rf g 229), some (.int (nI i))] [] M ml := by
  obtain ⟨r, a1, a2⟩ := J_movers hR.1.1 hR.1.2.1 (xs (i + 1)) (xs (i + 2)) (xs (i + 3))
  refine a_aload iL_law_818 rfl <| l_arg (q := 1) iL_law_819 iL_law_820 iL_law_821 iL_law_822 iL_law_823 rfl rfl rfl hi (by omega) hLn <| l_arg (q := 2) iL_law_824 iL_law_825 iL_law_826 iL_law_827 iL_law_828 rfl rfl rfl hi (by omega) hLn <| l_arg (q := 3) iL_law_829 iL_law_830 iL_law_831 iL_law_832 iL_law_833 rfl rfl rfl hi (by omega) hLn <| ?_
  refine a_cVi iL_law_834 okX7_movers inX7_movers ⟨rfl, rfl⟩ (As := [.int (xs (i + 1)), .int (xs (i + 2)), .int (xs (i + 3))]) (lt_s0 hV) (c_X7_movers hV a1) rfl rfl (Nat.le_of_ble_eq_true rfl) ⟨Nat.le_of_ble_eq_true rfl, Nat.le_of_ble_eq_true rfl⟩ <| ?_
  refine a_aload iL_law_837 rfl <| l_arg (q := 1) iL_law_838 iL_law_839 iL_law_840 iL_law_841 iL_law_842 rfl rfl rfl hi (by omega) hLn <| l_arg (q := 2) iL_law_843 iL_law_844 iL_law_845 iL_law_846 iL_law_847 rfl rfl rfl hi (by omega) hLn <| l_arg (q := 3) iL_law_848 iL_law_849 iL_law_850 iL_law_851 iL_law_852 rfl rfl rfl hi (by omega) hLn <| ?_
  refine a_cVi iL_law_853 okX8_movers inX8_movers ⟨rfl, rfl⟩ (As := [.int (xs (i + 1)), .int (xs (i + 2)), .int (xs (i + 3))]) (lm_s229 hM) (c_X8_movers hM a2) rfl rfl (Nat.le_of_ble_eq_true rfl) ⟨Nat.le_of_ble_eq_true rfl, Nat.le_of_ble_eq_true rfl⟩ <| ?_
  refine a_icmp_eq iL_law_856 (fun _ => ?_) (fun h => absurd rfl h)
  exact KK V M ml ld dr m wn sn hV hM hp hR
theorem k_poorest {g : Gm} {nm : String} {QF : Qf} {V : Vw} {M : Mi} {ml : Ml} {b Ln i ld dr m wn sn : Nat} {xs : Nat → Int32} (hi : i + 6 ≤ Ln) (hLn : Ln ≤ 3072) (hV : LayT V ld dr) (hM : LayM V) (hp : (ld = 4 ∧ dr = 210) ∨ (ld = 210 ∧ dr = 4)) (hR : RR M M ml ld m wn sn) (KK : NX g nm QF b Ln i xs) : At g (YLn nm) (EL g b Ln xs) QF V (249, 9132) 861 [some (.ref b), some (rf g 0), some (rf g 229), some (.int (nI i))] [] M ml := by
  obtain ⟨r, a1, a2⟩ := J_poorest hR.1.1 (xs (i + 1))
  refine a_aload iL_law_861 rfl <| l_arg (q := 1) iL_law_862 iL_law_863 iL_law_864 iL_law_865 iL_law_866 rfl rfl rfl hi (by omega) hLn <| ?_
  refine a_cVi iL_law_867 okX7_poorest inX7_poorest ⟨rfl, rfl⟩ (As := [.int (xs (i + 1))]) (lt_s0 hV) (c_X7_poorest hV a1) rfl rfl (Nat.le_of_ble_eq_true rfl) ⟨Nat.le_of_ble_eq_true rfl, Nat.le_of_ble_eq_true rfl⟩ <| ?_
  refine a_aload iL_law_870 rfl <| l_arg (q := 1) iL_law_871 iL_law_872 iL_law_873 iL_law_874 iL_law_875 rfl rfl rfl hi (by omega) hLn <| ?_
  refine a_cVi iL_law_876 okX8_poorest inX8_poorest ⟨rfl, rfl⟩ (As := [.int (xs (i + 1))]) (lm_s229 hM) (c_X8_poorest hM a2) rfl rfl (Nat.le_of_ble_eq_true rfl) ⟨Nat.le_of_ble_eq_true rfl, Nat.le_of_ble_eq_true rfl⟩ <| ?_
  refine a_icmp_eq iL_law_879 (fun _ => ?_) (fun h => absurd rfl h)
  exact KK V M ml ld dr m wn sn hV hM hp hR
theorem k_light {g : Gm} {nm : String} {QF : Qf} {V : Vw} {M : Mi} {ml : Ml} {b Ln i ld dr m wn sn : Nat} {xs : Nat → Int32} (hi : i + 6 ≤ Ln) (hLn : Ln ≤ 3072) (hV : LayT V ld dr) (hM : LayM V) (hp : (ld = 4 ∧ dr = 210) ∨ (ld = 210 ∧ dr = 4)) (hR : RR M M ml ld m wn sn) (KK : NX g nm QF b Ln i xs) : At g (YLn nm) (EL g b Ln xs) QF V (249, 9132) 884 [some (.ref b), some (rf g 0), some (rf g 229), some (.int (nI i))] [] M ml := by
  obtain ⟨r, a1, a2⟩ := J_light hR.1.1 hR.1.2.1 (xs (i + 1))
  refine a_aload iL_law_884 rfl <| l_arg (q := 1) iL_law_885 iL_law_886 iL_law_887 iL_law_888 iL_law_889 rfl rfl rfl hi (by omega) hLn <| ?_
  refine a_cVi iL_law_890 okX7_light inX7_light ⟨rfl, rfl⟩ (As := [.int (xs (i + 1))]) (lt_s0 hV) (c_X7_light hV a1) rfl rfl (Nat.le_of_ble_eq_true rfl) ⟨Nat.le_of_ble_eq_true rfl, Nat.le_of_ble_eq_true rfl⟩ <| ?_
  refine a_aload iL_law_893 rfl <| l_arg (q := 1) iL_law_894 iL_law_895 iL_law_896 iL_law_897 iL_law_898 rfl rfl rfl hi (by omega) hLn <| ?_
  refine a_cVi iL_law_899 okX8_light inX8_light ⟨rfl, rfl⟩ (As := [.int (xs (i + 1))]) (lm_s229 hM) (c_X8_light hM a2) rfl rfl (Nat.le_of_ble_eq_true rfl) ⟨Nat.le_of_ble_eq_true rfl, Nat.le_of_ble_eq_true rfl⟩ <| ?_
  refine a_icmp_eq iL_law_902 (fun _ => ?_) (fun h => absurd rfl h)
  exact KK V M ml ld dr m wn sn hV hM hp hR
theorem k_child {g : Gm} {nm : String} {QF : Qf} {V : Vw} {M : Mi} {ml : Ml} {b Ln i ld dr m wn sn : Nat} {xs : Nat → Int32} (hi : i + 6 ≤ Ln) (hLn : Ln ≤ 3072) (hV : LayT V ld dr) (hM : LayM V) (hp : (ld = 4 ∧ dr = 210) ∨ (ld = 210 ∧ dr = 4)) (hR : RR M M ml ld m wn sn) (KK : NX g nm QF b Ln i xs) : At g (YLn nm) (EL g b Ln xs) QF V (249, 9132) 907 [some (.ref b), some (rf g 0), some (rf g 229), some (.int (nI i))] [] M ml := by
  obtain ⟨r, a1, a2⟩ := J_child hR.1.1 hR.1.2.1 (xs (i + 1)) (xs (i + 2))
  refine a_aload iL_law_907 rfl <| l_arg (q := 1) iL_law_908 iL_law_909 iL_law_910 iL_law_911 iL_law_912 rfl rfl rfl hi (by omega) hLn <| l_arg (q := 2) iL_law_913 iL_law_914 iL_law_915 iL_law_916 iL_law_917 rfl rfl rfl hi (by omega) hLn <| ?_
  refine a_cVi iL_law_918 okX7_child inX7_child ⟨rfl, rfl⟩ (As := [.int (xs (i + 1)), .int (xs (i + 2))]) (lt_s0 hV) (c_X7_child hV a1) rfl rfl (Nat.le_of_ble_eq_true rfl) ⟨Nat.le_of_ble_eq_true rfl, Nat.le_of_ble_eq_true rfl⟩ <| ?_
  refine a_aload iL_law_921 rfl <| l_arg (q := 1) iL_law_922 iL_law_923 iL_law_924 iL_law_925 iL_law_926 rfl rfl rfl hi (by omega) hLn <| l_arg (q := 2) iL_law_927 iL_law_928 iL_law_929 iL_law_930 iL_law_931 rfl rfl rfl hi (by omega) hLn <| ?_
  refine a_cVi iL_law_932 okX8_child inX8_child ⟨rfl, rfl⟩ (As := [.int (xs (i + 1)), .int (xs (i + 2))]) (lm_s229 hM) (c_X8_child hM a2) rfl rfl (Nat.le_of_ble_eq_true rfl) ⟨Nat.le_of_ble_eq_true rfl, Nat.le_of_ble_eq_true rfl⟩ <| ?_
  refine a_icmp_eq iL_law_935 (fun _ => ?_) (fun h => absurd rfl h)
  exact KK V M ml ld dr m wn sn hV hM hp hR
theorem k_clear {g : Gm} {nm : String} {QF : Qf} {V : Vw} {M : Mi} {ml : Ml} {b Ln i ld dr m wn sn : Nat} {xs : Nat → Int32} (hi : i + 6 ≤ Ln) (hLn : Ln ≤ 3072) (hV : LayT V ld dr) (hM : LayM V) (hp : (ld = 4 ∧ dr = 210) ∨ (ld = 210 ∧ dr = 4)) (hR : RR M M ml ld m wn sn) (KK : NX g nm QF b Ln i xs) : At g (YLn nm) (EL g b Ln xs) QF V (249, 9132) 940 [some (.ref b), some (rf g 0), some (rf g 229), some (.int (nI i))] [] M ml := by
  obtain ⟨r, a1, a2⟩ := J_clear M M (xs (i + 1)) (xs (i + 2))
  refine a_aload iL_law_940 rfl <| l_arg (q := 1) iL_law_941 iL_law_942 iL_law_943 iL_law_944 iL_law_945 rfl rfl rfl hi (by omega) hLn <| l_arg (q := 2) iL_law_946 iL_law_947 iL_law_948 iL_law_949 iL_law_950 rfl rfl rfl hi (by omega) hLn <| ?_
  refine a_cVi iL_law_951 okX7_clear inX7_clear ⟨rfl, rfl⟩ (As := [.int (xs (i + 1)), .int (xs (i + 2))]) (lt_s0 hV) (c_X7_clear hV a1) rfl rfl (Nat.le_of_ble_eq_true rfl) ⟨Nat.le_of_ble_eq_true rfl, Nat.le_of_ble_eq_true rfl⟩ <| ?_
  refine a_aload iL_law_954 rfl <| l_arg (q := 1) iL_law_955 iL_law_956 iL_law_957 iL_law_958 iL_law_959 rfl rfl rfl hi (by omega) hLn <| l_arg (q := 2) iL_law_960 iL_law_961 iL_law_962 iL_law_963 iL_law_964 rfl rfl rfl hi (by omega) hLn <| ?_
  refine a_cVi iL_law_965 okX8_clear inX8_clear ⟨rfl, rfl⟩ (As := [.int (xs (i + 1)), .int (xs (i + 2))]) (lm_s229 hM) (c_X8_clear hM a2) rfl rfl (Nat.le_of_ble_eq_true rfl) ⟨Nat.le_of_ble_eq_true rfl, Nat.le_of_ble_eq_true rfl⟩ <| ?_
  refine a_icmp_eq iL_law_968 (fun _ => ?_) (fun h => absurd rfl h)
  exact KK V M ml ld dr m wn sn hV hM hp hR
theorem k_find {g : Gm} {nm : String} {QF : Qf} {V : Vw} {M : Mi} {ml : Ml} {b Ln i ld dr m wn sn : Nat} {xs : Nat → Int32} (hi : i + 6 ≤ Ln) (hLn : Ln ≤ 3072) (hV : LayT V ld dr) (hM : LayM V) (hp : (ld = 4 ∧ dr = 210) ∨ (ld = 210 ∧ dr = 4)) (hR : RR M M ml ld m wn sn) (KK : NX g nm QF b Ln i xs) : At g (YLn nm) (EL g b Ln xs) QF V (249, 9132) 973 [some (.ref b), some (rf g 0), some (rf g 229), some (.int (nI i))] [] M ml := by
  have go : ∀ q : Nat, q < 2 → (∀ {V' : Vw} {k' : Nat × Nat} {st' : List Value} {mi' : Mi} {ml' : Ml}, At g (YLn nm) (EL g b Ln xs) QF V' k' 997 [some (.ref b), some (rf g 0), some (rf g 229), some (.int (nI i))] (.int (nI q) :: st') mi' ml' → At g (YLn nm) (EL g b Ln xs) QF V' k' 989 [some (.ref b), some (rf g 0), some (rf g 229), some (.int (nI i))] (.int (xs (i + 3)) :: st') mi' ml') → (∀ {V' : Vw} {k' : Nat × Nat} {st' : List Value} {mi' : Mi} {ml' : Ml}, At g (YLn nm) (EL g b Ln xs) QF V' k' 1024 [some (.ref b), some (rf g 0), some (rf g 229), some (.int (nI i))] (.int (nI q) :: st') mi' ml' → At g (YLn nm) (EL g b Ln xs) QF V' k' 1016 [some (.ref b), some (rf g 0), some (rf g 229), some (.int (nI i))] (.int (xs (i + 3)) :: st') mi' ml') → At g (YLn nm) (EL g b Ln xs) QF V (249, 9132) 973 [some (.ref b), some (rf g 0), some (rf g 229), some (.int (nI i))] [] M ml := by
    intro q hq g1 g2
    obtain ⟨r, m1, m2, a1, a2, a3⟩ := SM.one (o1 := fun mi => f_X7_find mi ld (xs (i + 1)) (xs (i + 2)) (nI q)) (o2 := fun mj => f_X8_find mj (xs (i + 1)) (xs (i + 2)) (nI q)) hR (fun mi mj h => S_find h _ _ hq)
    refine a_aload iL_law_973 rfl <| l_arg (q := 1) iL_law_974 iL_law_975 iL_law_976 iL_law_977 iL_law_978 rfl rfl rfl hi (by omega) hLn <| l_arg (q := 2) iL_law_979 iL_law_980 iL_law_981 iL_law_982 iL_law_983 rfl rfl rfl hi (by omega) hLn <| l_arg (q := 3) iL_law_984 iL_law_985 iL_law_986 iL_law_987 iL_law_988 rfl rfl rfl hi (by omega) hLn <| g1 ?_
    refine a_cVi iL_law_997 okX7_find inX7_find ⟨rfl, rfl⟩ (As := [.int (xs (i + 1)), .int (xs (i + 2)), .int (nI q)]) (lt_s0 hV) (c_X7_find hV a1) rfl rfl (Nat.le_of_ble_eq_true rfl) ⟨Nat.le_of_ble_eq_true rfl, Nat.le_of_ble_eq_true rfl⟩ <| ?_
    refine a_aload iL_law_1000 rfl <| l_arg (q := 1) iL_law_1001 iL_law_1002 iL_law_1003 iL_law_1004 iL_law_1005 rfl rfl rfl hi (by omega) hLn <| l_arg (q := 2) iL_law_1006 iL_law_1007 iL_law_1008 iL_law_1009 iL_law_1010 rfl rfl rfl hi (by omega) hLn <| l_arg (q := 3) iL_law_1011 iL_law_1012 iL_law_1013 iL_law_1014 iL_law_1015 rfl rfl rfl hi (by omega) hLn <| g2 ?_
    refine a_cVi iL_law_1024 okX8_find inX8_find ⟨rfl, rfl⟩ (As := [.int (xs (i + 1)), .int (xs (i + 2)), .int (nI q)]) (lm_s229 hM) (c_X8_find hM a2) rfl rfl (Nat.le_of_ble_eq_true rfl) ⟨Nat.le_of_ble_eq_true rfl, Nat.le_of_ble_eq_true rfl⟩ <| ?_
    refine a_icmp_eq iL_law_1027 (fun _ => ?_) (fun h => absurd rfl h)
    exact KK V m2 ml ld dr m wn sn hV hM hp a3
  by_cases h0 : xs (i + 3) = 0
  · exact go 0 (by omega) (fun kk => a_if_eq iL_law_989 (fun _ => a_const iL_law_996 kk) (fun h => absurd h0 h)) (fun kk => a_if_eq iL_law_1016 (fun _ => a_const iL_law_1023 kk) (fun h => absurd h0 h))
  · exact go 1 (by omega) (fun kk => a_if_eq iL_law_989 (fun h => absurd h h0) (fun _ => a_const iL_law_992 <| a_goto iL_law_993 kk)) (fun kk => a_if_eq iL_law_1016 (fun h => absurd h h0) (fun _ => a_const iL_law_1019 <| a_goto iL_law_1020 kk))
theorem k_fits {g : Gm} {nm : String} {QF : Qf} {V : Vw} {M : Mi} {ml : Ml} {b Ln i ld dr m wn sn : Nat} {xs : Nat → Int32} (hi : i + 6 ≤ Ln) (hLn : Ln ≤ 3072) (hV : LayT V ld dr) (hM : LayM V) (hp : (ld = 4 ∧ dr = 210) ∨ (ld = 210 ∧ dr = 4)) (hR : RR M M ml ld m wn sn) (KK : NX g nm QF b Ln i xs) : At g (YLn nm) (EL g b Ln xs) QF V (249, 9132) 1032 [some (.ref b), some (rf g 0), some (rf g 229), some (.int (nI i))] [] M ml := by
  obtain ⟨r, a1, a2⟩ := J_fits hR.1.1 hR.1.2.1 hR.2.2.2.2.1 (xs (i + 1))
  refine a_aload iL_law_1032 rfl <| l_arg (q := 1) iL_law_1033 iL_law_1034 iL_law_1035 iL_law_1036 iL_law_1037 rfl rfl rfl hi (by omega) hLn <| ?_
  refine a_cVi iL_law_1038 okX7_fits inX7_fits ⟨rfl, rfl⟩ (As := [.int (xs (i + 1))]) (lt_s0 hV) (c_X7_fits hV a1) rfl rfl (Nat.le_of_ble_eq_true rfl) ⟨Nat.le_of_ble_eq_true rfl, Nat.le_of_ble_eq_true rfl⟩ <| ?_
  refine a_aload iL_law_1041 rfl <| l_arg (q := 1) iL_law_1042 iL_law_1043 iL_law_1044 iL_law_1045 iL_law_1046 rfl rfl rfl hi (by omega) hLn <| ?_
  refine a_cVi iL_law_1047 okX8_fits inX8_fits ⟨rfl, rfl⟩ (As := [.int (xs (i + 1))]) (lm_s229 hM) (c_X8_fits hM a2) rfl rfl (Nat.le_of_ble_eq_true rfl) ⟨Nat.le_of_ble_eq_true rfl, Nat.le_of_ble_eq_true rfl⟩ <| ?_
  refine a_icmp_eq iL_law_1050 (fun _ => ?_) (fun h => absurd rfl h)
  exact KK V M ml ld dr m wn sn hV hM hp hR
theorem k_lookAt {g : Gm} {nm : String} {QF : Qf} {V : Vw} {M : Mi} {ml : Ml} {b Ln i ld dr m wn sn : Nat} {xs : Nat → Int32} (hi : i + 6 ≤ Ln) (hLn : Ln ≤ 3072) (hV : LayT V ld dr) (hM : LayM V) (hp : (ld = 4 ∧ dr = 210) ∨ (ld = 210 ∧ dr = 4)) (hR : RR M M ml ld m wn sn) (KK : NX g nm QF b Ln i xs) : At g (YLn nm) (EL g b Ln xs) QF V (249, 9132) 1055 [some (.ref b), some (rf g 0), some (rf g 229), some (.int (nI i))] [] M ml := by
  obtain ⟨r, m1, m2, a1, a2, a3⟩ := SM.one (o1 := fun mi => f_X7_lookAt mi ld) (o2 := fun mj => f_X8_lookAt mj) hR (fun mi mj h => S_lookAt h)
  refine a_aload iL_law_1055 rfl <| ?_
  refine a_cVi iL_law_1056 okX7_lookAt inX7_lookAt ⟨rfl, rfl⟩ (As := []) (lt_s0 hV) (c_X7_lookAt hV a1) rfl rfl (Nat.le_of_ble_eq_true rfl) ⟨Nat.le_of_ble_eq_true rfl, Nat.le_of_ble_eq_true rfl⟩ <| ?_
  refine a_aload iL_law_1059 rfl <| ?_
  refine a_cVi iL_law_1060 okX8_lookAt inX8_lookAt ⟨rfl, rfl⟩ (As := []) (lm_s229 hM) (c_X8_lookAt hM a2) rfl rfl (Nat.le_of_ble_eq_true rfl) ⟨Nat.le_of_ble_eq_true rfl, Nat.le_of_ble_eq_true rfl⟩ <| ?_
  refine a_icmp_eq iL_law_1063 (fun _ => ?_) (fun h => absurd rfl h)
  exact KK V m2 ml ld dr m wn sn hV hM hp a3
theorem k_write {g : Gm} {nm : String} {QF : Qf} {V : Vw} {M : Mi} {ml : Ml} {b Ln i ld dr m wn sn : Nat} {xs : Nat → Int32} (hi : i + 6 ≤ Ln) (hLn : Ln ≤ 3072) (hV : LayT V ld dr) (hM : LayM V) (hp : (ld = 4 ∧ dr = 210) ∨ (ld = 210 ∧ dr = 4)) (hR : RR M M ml ld m wn sn) (KK : NX g nm QF b Ln i xs) : At g (YLn nm) (EL g b Ln xs) QF V (249, 9132) 1068 [some (.ref b), some (rf g 0), some (rf g 229), some (.int (nI i))] [] M ml := by
  obtain ⟨r, m1, m2, a1, a2, a3⟩ := SM.one (o1 := fun mi => f_X7_write mi ld (xs (i + 1)) (xs (i + 2))) (o2 := fun mj => f_X8_write mj (xs (i + 1)) (xs (i + 2))) hR (fun mi mj h => S_write h _ _)
  refine a_aload iL_law_1068 rfl <| l_arg (q := 1) iL_law_1069 iL_law_1070 iL_law_1071 iL_law_1072 iL_law_1073 rfl rfl rfl hi (by omega) hLn <| l_arg (q := 2) iL_law_1074 iL_law_1075 iL_law_1076 iL_law_1077 iL_law_1078 rfl rfl rfl hi (by omega) hLn <| ?_
  refine a_cVi iL_law_1079 okX7_write inX7_write ⟨rfl, rfl⟩ (As := [.int (xs (i + 1)), .int (xs (i + 2))]) (lt_s0 hV) (c_X7_write hV a1) rfl rfl (Nat.le_of_ble_eq_true rfl) ⟨Nat.le_of_ble_eq_true rfl, Nat.le_of_ble_eq_true rfl⟩ <| ?_
  refine a_aload iL_law_1082 rfl <| l_arg (q := 1) iL_law_1083 iL_law_1084 iL_law_1085 iL_law_1086 iL_law_1087 rfl rfl rfl hi (by omega) hLn <| l_arg (q := 2) iL_law_1088 iL_law_1089 iL_law_1090 iL_law_1091 iL_law_1092 rfl rfl rfl hi (by omega) hLn <| ?_
  refine a_cVi iL_law_1093 okX8_write inX8_write ⟨rfl, rfl⟩ (As := [.int (xs (i + 1)), .int (xs (i + 2))]) (lm_s229 hM) (c_X8_write hM a2) rfl rfl (Nat.le_of_ble_eq_true rfl) ⟨Nat.le_of_ble_eq_true rfl, Nat.le_of_ble_eq_true rfl⟩ <| ?_
  refine a_icmp_eq iL_law_1096 (fun _ => ?_) (fun h => absurd rfl h)
  exact KK V m2 ml ld dr m wn sn hV hM hp a3
theorem k_judge {g : Gm} {nm : String} {QF : Qf} {V : Vw} {M : Mi} {ml : Ml} {b Ln i ld dr m wn sn : Nat} {xs : Nat → Int32} (hi : i + 6 ≤ Ln) (hLn : Ln ≤ 3072) (hV : LayT V ld dr) (hM : LayM V) (hp : (ld = 4 ∧ dr = 210) ∨ (ld = 210 ∧ dr = 4)) (hR : RR M M ml ld m wn sn) (KK : NX g nm QF b Ln i xs) : At g (YLn nm) (EL g b Ln xs) QF V (249, 9132) 1101 [some (.ref b), some (rf g 0), some (rf g 229), some (.int (nI i))] [] M ml := by
  obtain ⟨r, a1, a2⟩ := J_judge hR.1.1 hR.1.2.1 hR.2.2.2.2.2
  refine a_aload iL_law_1101 rfl <| ?_
  refine a_cVi iL_law_1102 okX7_judge inX7_judge ⟨rfl, rfl⟩ (As := []) (lt_s0 hV) (c_X7_judge hV a1) rfl rfl (Nat.le_of_ble_eq_true rfl) ⟨Nat.le_of_ble_eq_true rfl, Nat.le_of_ble_eq_true rfl⟩ <| ?_
  refine a_aload iL_law_1105 rfl <| ?_
  refine a_cVi iL_law_1106 okX8_judge inX8_judge ⟨rfl, rfl⟩ (As := []) (lm_s229 hM) (c_X8_judge hM a2) rfl rfl (Nat.le_of_ble_eq_true rfl) ⟨Nat.le_of_ble_eq_true rfl, Nat.le_of_ble_eq_true rfl⟩ <| ?_
  refine a_icmp_eq iL_law_1109 (fun _ => ?_) (fun h => absurd rfl h)
  exact KK V M ml ld dr m wn sn hV hM hp hR
theorem k_tear {g : Gm} {nm : String} {QF : Qf} {V : Vw} {M : Mi} {ml : Ml} {b Ln i ld dr m wn sn : Nat} {xs : Nat → Int32} (hi : i + 6 ≤ Ln) (hLn : Ln ≤ 3072) (hV : LayT V ld dr) (hM : LayM V) (hp : (ld = 4 ∧ dr = 210) ∨ (ld = 210 ∧ dr = 4)) (hR : RR M M ml ld m wn sn) (KK : NX g nm QF b Ln i xs) : At g (YLn nm) (EL g b Ln xs) QF V (249, 9132) 1114 [some (.ref b), some (rf g 0), some (rf g 229), some (.int (nI i))] [] M ml := by
  obtain ⟨r, m1, m2, a1, a2, a3⟩ := SM.one (o1 := fun mi => f_X7_tear mi) (o2 := fun mj => f_X8_tear mj) hR (fun mi mj h => S_tear h)
  refine a_aload iL_law_1114 rfl <| ?_
  refine a_cVi iL_law_1115 okX7_tear inX7_tear ⟨rfl, rfl⟩ (As := []) (lt_s0 hV) (c_X7_tear hV a1) rfl rfl (Nat.le_of_ble_eq_true rfl) ⟨Nat.le_of_ble_eq_true rfl, Nat.le_of_ble_eq_true rfl⟩ <| ?_
  refine a_aload iL_law_1118 rfl <| ?_
  refine a_cVi iL_law_1119 okX8_tear inX8_tear ⟨rfl, rfl⟩ (As := []) (lm_s229 hM) (c_X8_tear hM a2) rfl rfl (Nat.le_of_ble_eq_true rfl) ⟨Nat.le_of_ble_eq_true rfl, Nat.le_of_ble_eq_true rfl⟩ <| ?_
  refine a_icmp_eq iL_law_1122 (fun _ => ?_) (fun h => absurd rfl h)
  exact KK V m2 ml ld dr m wn sn hV hM hp a3
theorem k_seed {g : Gm} {nm : String} {QF : Qf} {V : Vw} {M : Mi} {ml : Ml} {b Ln i ld dr m wn sn : Nat} {xs : Nat → Int32} (hi : i + 6 ≤ Ln) (hLn : Ln ≤ 3072) (hV : LayT V ld dr) (hM : LayM V) (hp : (ld = 4 ∧ dr = 210) ∨ (ld = 210 ∧ dr = 4)) (hR : RR M M ml ld m wn sn) (KK : NX g nm QF b Ln i xs) : At g (YLn nm) (EL g b Ln xs) QF V (249, 9132) 1127 [some (.ref b), some (rf g 0), some (rf g 229), some (.int (nI i))] [] M ml := by
  obtain ⟨r, m1, m2, l2, a1, a2, a3⟩ := SO.one (o1 := fun mi => f_X7_seed mi (xs (i + 1))) (o2 := fun mj => f_X8_seed mj ml (xs (i + 1))) hR (fun mi mj h => S_seed h _)
  refine a_aload iL_law_1127 rfl <| l_arg (q := 1) iL_law_1128 iL_law_1129 iL_law_1130 iL_law_1131 iL_law_1132 rfl rfl rfl hi (by omega) hLn <| ?_
  refine a_cVi iL_law_1133 okX7_seed inX7_seed ⟨rfl, rfl⟩ (As := [.int (xs (i + 1))]) (lt_s0 hV) (c_X7_seed hV a1) rfl rfl (Nat.le_of_ble_eq_true rfl) ⟨Nat.le_of_ble_eq_true rfl, Nat.le_of_ble_eq_true rfl⟩ <| ?_
  refine a_aload iL_law_1136 rfl <| l_arg (q := 1) iL_law_1137 iL_law_1138 iL_law_1139 iL_law_1140 iL_law_1141 rfl rfl rfl hi (by omega) hLn <| ?_
  refine a_cVi iL_law_1142 okX8_seed inX8_seed ⟨rfl, rfl⟩ (As := [.int (xs (i + 1))]) (lm_s229 hM) (c_X8_seed hM a2) rfl rfl (Nat.le_of_ble_eq_true rfl) ⟨Nat.le_of_ble_eq_true rfl, Nat.le_of_ble_eq_true rfl⟩ <| ?_
  refine a_icmp_eq iL_law_1145 (fun _ => ?_) (fun h => absurd rfl h)
  exact KK V m2 l2 ld dr m wn sn hV hM hp a3
theorem k_keep {g : Gm} {nm : String} {QF : Qf} {V : Vw} {M : Mi} {ml : Ml} {b Ln i ld dr m wn sn : Nat} {xs : Nat → Int32} (hi : i + 6 ≤ Ln) (hLn : Ln ≤ 3072) (hV : LayT V ld dr) (hM : LayM V) (hp : (ld = 4 ∧ dr = 210) ∨ (ld = 210 ∧ dr = 4)) (hR : RR M M ml ld m wn sn) (KK : NX g nm QF b Ln i xs) : At g (YLn nm) (EL g b Ln xs) QF V (249, 9132) 1150 [some (.ref b), some (rf g 0), some (rf g 229), some (.int (nI i))] [] M ml := by
  obtain ⟨r, m1, m2, l2, a1, a2, a3⟩ := SO.one (o1 := fun mi => f_X7_keep mi (xs (i + 1))) (o2 := fun mj => f_X8_keep mj ml (xs (i + 1))) hR (fun mi mj h => S_keep h _)
  refine a_aload iL_law_1150 rfl <| l_arg (q := 1) iL_law_1151 iL_law_1152 iL_law_1153 iL_law_1154 iL_law_1155 rfl rfl rfl hi (by omega) hLn <| ?_
  refine a_cVi iL_law_1156 okX7_keep inX7_keep ⟨rfl, rfl⟩ (As := [.int (xs (i + 1))]) (lt_s0 hV) (c_X7_keep hV a1) rfl rfl (Nat.le_of_ble_eq_true rfl) ⟨Nat.le_of_ble_eq_true rfl, Nat.le_of_ble_eq_true rfl⟩ <| ?_
  refine a_aload iL_law_1159 rfl <| l_arg (q := 1) iL_law_1160 iL_law_1161 iL_law_1162 iL_law_1163 iL_law_1164 rfl rfl rfl hi (by omega) hLn <| ?_
  refine a_cVi iL_law_1165 okX8_keep inX8_keep ⟨rfl, rfl⟩ (As := [.int (xs (i + 1))]) (lm_s229 hM) (c_X8_keep hM a2) rfl rfl (Nat.le_of_ble_eq_true rfl) ⟨Nat.le_of_ble_eq_true rfl, Nat.le_of_ble_eq_true rfl⟩ <| ?_
  refine a_icmp_eq iL_law_1168 (fun _ => ?_) (fun h => absurd rfl h)
  exact KK V m2 l2 ld dr m wn sn hV hM hp a3
theorem k_goBack {g : Gm} {nm : String} {QF : Qf} {V : Vw} {M : Mi} {ml : Ml} {b Ln i ld dr m wn sn : Nat} {xs : Nat → Int32} (hi : i + 6 ≤ Ln) (hLn : Ln ≤ 3072) (hV : LayT V ld dr) (hM : LayM V) (hp : (ld = 4 ∧ dr = 210) ∨ (ld = 210 ∧ dr = 4)) (hR : RR M M ml ld m wn sn) (KK : NX g nm QF b Ln i xs) : At g (YLn nm) (EL g b Ln xs) QF V (249, 9132) 1173 [some (.ref b), some (rf g 0), some (rf g 229), some (.int (nI i))] [] M ml := by
  obtain ⟨r, m1, m2, l2, a1, a2, a3⟩ := SO.one (o1 := fun mi => f_X7_goBack mi (xs (i + 1))) (o2 := fun mj => f_X8_goBack mj ml (xs (i + 1))) hR (fun mi mj h => S_back h _)
  refine a_aload iL_law_1173 rfl <| l_arg (q := 1) iL_law_1174 iL_law_1175 iL_law_1176 iL_law_1177 iL_law_1178 rfl rfl rfl hi (by omega) hLn <| ?_
  refine a_cVi iL_law_1179 okX7_goBack inX7_goBack ⟨rfl, rfl⟩ (As := [.int (xs (i + 1))]) (lt_s0 hV) (c_X7_goBack hV a1) rfl rfl (Nat.le_of_ble_eq_true rfl) ⟨Nat.le_of_ble_eq_true rfl, Nat.le_of_ble_eq_true rfl⟩ <| ?_
  refine a_aload iL_law_1182 rfl <| l_arg (q := 1) iL_law_1183 iL_law_1184 iL_law_1185 iL_law_1186 iL_law_1187 rfl rfl rfl hi (by omega) hLn <| ?_
  refine a_cVi iL_law_1188 okX8_goBack inX8_goBack ⟨rfl, rfl⟩ (As := [.int (xs (i + 1))]) (lm_s229 hM) (c_X8_goBack hM a2) rfl rfl (Nat.le_of_ble_eq_true rfl) ⟨Nat.le_of_ble_eq_true rfl, Nat.le_of_ble_eq_true rfl⟩ <| ?_
  refine a_icmp_eq iL_law_1191 (fun _ => ?_) (fun h => absurd rfl h)
  exact KK V m2 l2 ld dr m wn sn hV hM hp a3
/-- the switch -/
theorem k_all {g : Gm} {nm : String} {QF : Qf} {V : Vw} {M : Mi} {ml : Ml} {b Ln i ld dr m wn sn : Nat} {xs : Nat → Int32} (hi : i + 6 ≤ Ln) (hLn : Ln ≤ 3072) (hV : LayT V ld dr) (hM : LayM V) (hp : (ld = 4 ∧ dr = 210) ∨ (ld = 210 ∧ dr = 4)) (hR : RR M M ml ld m wn sn) (KK : NX g nm QF b Ln i xs) (x : Int32) (hx : ∃ c : Nat, c < 64 ∧ x = nI c) : At g (YLn nm) (EL g b Ln xs) QF V (249, 9132) 33 [some (.ref b), some (rf g 0), some (rf g 229), some (.int (nI i))] [.int x] M ml := by
  obtain ⟨c, hc, rfl⟩ := hx
  by_cases h36 : c < 36
  · rcases (show c = 0 ∨ c = 1 ∨ c = 2 ∨ c = 3 ∨ c = 4 ∨ c = 5 ∨ c = 6 ∨ c = 7 ∨ c = 8 ∨ c = 9 ∨ c = 10 ∨ c = 11 ∨ c = 12 ∨ c = 13 ∨ c = 14 ∨ c = 15 ∨ c = 16 ∨ c = 17 ∨ c = 18 ∨ c = 19 ∨ c = 20 ∨ c = 21 ∨ c = 22 ∨ c = 23 ∨ c = 24 ∨ c = 25 ∨ c = 26 ∨ c = 27 ∨ c = 28 ∨ c = 29 ∨ c = 30 ∨ c = 31 ∨ c = 32 ∨ c = 33 ∨ c = 34 ∨ c = 35 by omega) with rfl | rfl | rfl | rfl | rfl | rfl | rfl | rfl | rfl | rfl | rfl | rfl | rfl | rfl | rfl | rfl | rfl | rfl | rfl | rfl | rfl | rfl | rfl | rfl | rfl | rfl | rfl | rfl | rfl | rfl | rfl | rfl | rfl | rfl | rfl | rfl
    · exact a_tb (tgt := 192) iL_law_33 (by decide) (by decide) rfl (k_feed hi hLn hV hM hp hR KK)
    · exact a_tb (tgt := 215) iL_law_33 (by decide) (by decide) rfl (k_county hi hLn hV hM hp hR KK)
    · exact a_tb (tgt := 228) iL_law_33 (by decide) (by decide) rfl (k_fault hi hLn hV hM hp hR KK)
    · exact a_tb (tgt := 241) iL_law_33 (by decide) (by decide) rfl (k_told hi hLn hV hM hp hR KK)
    · exact a_tb (tgt := 264) iL_law_33 (by decide) (by decide) rfl (k_heir hi hLn hV hM hp hR KK)
    · exact a_tb (tgt := 297) iL_law_33 (by decide) (by decide) rfl (k_thing hi hLn hV hM hp hR KK)
    · exact a_tb (tgt := 330) iL_law_33 (by decide) (by decide) rfl (k_want hi hLn hV hM hp hR KK)
    · exact a_tb (tgt := 363) iL_law_33 (by decide) (by decide) rfl (k_known hi hLn hV hM hp hR KK)
    · exact a_tb (tgt := 396) iL_law_33 (by decide) (by decide) rfl (k_logged hi hLn hV hM hp hR KK)
    · exact a_tb (tgt := 429) iL_law_33 (by decide) (by decide) rfl (k_hour hi hLn hV hM hp hR KK)
    · exact a_tb (tgt := 452) iL_law_33 (by decide) (by decide) rfl (k_put hi hLn hV hM hp hR KK)
    · exact a_tb (tgt := 485) iL_law_33 (by decide) (by decide) rfl (k_note hi hLn hV hM hp hR KK)
    · exact a_tb (tgt := 518) iL_law_33 (by decide) (by decide) rfl (k_eclipse hi hLn hV hM hp hR KK)
    · exact a_tb (tgt := 541) iL_law_33 (by decide) (by decide) rfl (k_drift hi hLn hV hM hp hR KK)
    · exact a_tb (tgt := 564) iL_law_33 (by decide) (by decide) rfl (k_undo hi hLn hV hM hp hR KK)
    · exact a_tb (tgt := 587) iL_law_33 (by decide) (by decide) rfl (k_whose hi hLn hV hM hp hR KK)
    · exact a_tb (tgt := 610) iL_law_33 (by decide) (by decide) rfl (k_gets hi hLn hV hM hp hR KK)
    · exact a_tb (tgt := 643) iL_law_33 (by decide) (by decide) rfl (k_willBe hi hLn hV hM hp hR KK)
    · exact a_tb (tgt := 676) iL_law_33 (by decide) (by decide) rfl (k_next hi hLn hV hM hp hR KK)
    · exact a_tb (tgt := 699) iL_law_33 (by decide) (by decide) rfl (k_keepSo hi hLn hV hM hp hR KK)
    · exact a_tb (tgt := 762) iL_law_33 (by decide) (by decide) rfl (k_agreed hi hLn hV hM hp hR KK)
    · exact a_tb (tgt := 785) iL_law_33 (by decide) (by decide) rfl (k_against hi hLn hV hM hp hR KK)
    · exact a_tb (tgt := 818) iL_law_33 (by decide) (by decide) rfl (k_movers hi hLn hV hM hp hR KK)
    · exact a_tb (tgt := 861) iL_law_33 (by decide) (by decide) rfl (k_poorest hi hLn hV hM hp hR KK)
    · exact a_tb (tgt := 884) iL_law_33 (by decide) (by decide) rfl (k_light hi hLn hV hM hp hR KK)
    · exact a_tb (tgt := 907) iL_law_33 (by decide) (by decide) rfl (k_child hi hLn hV hM hp hR KK)
    · exact a_tb (tgt := 940) iL_law_33 (by decide) (by decide) rfl (k_clear hi hLn hV hM hp hR KK)
    · exact a_tb (tgt := 973) iL_law_33 (by decide) (by decide) rfl (k_find hi hLn hV hM hp hR KK)
    · exact a_tb (tgt := 1032) iL_law_33 (by decide) (by decide) rfl (k_fits hi hLn hV hM hp hR KK)
    · exact a_tb (tgt := 1055) iL_law_33 (by decide) (by decide) rfl (k_lookAt hi hLn hV hM hp hR KK)
    · exact a_tb (tgt := 1068) iL_law_33 (by decide) (by decide) rfl (k_write hi hLn hV hM hp hR KK)
    · exact a_tb (tgt := 1101) iL_law_33 (by decide) (by decide) rfl (k_judge hi hLn hV hM hp hR KK)
    · exact a_tb (tgt := 1114) iL_law_33 (by decide) (by decide) rfl (k_tear hi hLn hV hM hp hR KK)
    · exact a_tb (tgt := 1127) iL_law_33 (by decide) (by decide) rfl (k_seed hi hLn hV hM hp hR KK)
    · exact a_tb (tgt := 1150) iL_law_33 (by decide) (by decide) rfl (k_keep hi hLn hV hM hp hR KK)
    · exact a_tb (tgt := 1173) iL_law_33 (by decide) (by decide) rfl (k_goBack hi hLn hV hM hp hR KK)
  · exact a_tbo iL_law_33 (Or.inr (by rw [nI_toInt (by omega)]; omega)) (KK V M ml ld dr m wn sn hV hM hp hR)
