set_option maxRecDepth 100000 in
set_option maxHeartbeats 4000000 in
theorem kX11_news_253 {l : Launch} {g : evG} {p : Program} {e : Env} {s : State} {m : MethodId} {args : Array Value} {below : List Frame} {meth : Method} {c : Code} {A : Nat → Prop} {zm : Nat → Nat} {r : Int32} {om : Gp} (C : ctx g p s m args meth c RX11 cX11_news 10 (some .int) A) {rec253 : Gp → Int32 → Int32 → Option (Int32 × Gp)} (hr253 : ∀ (Tm : Gp) (x5 : Int32) (x6 : Int32) (H : Heap) (locs : List Loc) (ls : Array Slot), rec253 Tm x5 x6 = some (r, om) → wl g A s.heap (gcM g zm Tm) H locs → lv_has ls 10 [(0, .ref (zm 0)), (5, .int x5), (6, .int x6)] → W p l e (rmK 1 25) s m args below meth c H locs 0 0 (MQ below (Qi g A (gcM g zm om) r) args s 0 0 A) (F0 m 253 ls [])) {Tm : Gp} {x5 : Int32} {x6 : Int32} {H : Heap} {locs : List Loc} {ls : Array Slot} (hf : fX11_news_253 rec253 Tm x5 x6 = some (r, om)) (hw : wl g A s.heap (gcM g zm Tm) H locs) (hl : lv_has ls 10 [(0, .ref (zm 0)), (5, .int x5), (6, .int x6)]) : W p l e (rmK 1 25) s m args below meth c H locs 0 0 (MQ below (Qi g A (gcM g zm om) r) args s 0 0 A) (F0 m 253 ls []) := by
  obtain ⟨hx, hb, hml, hown, hts, -⟩ := id C
  unfold fX11_news_253 at hf
  refine lv_iload hx hb dX11_news_253 (lv_at hl 2 rfl) ?_
  refine lv_iconst (v := (4 : Int32)) hx hb dX11_news_255 rfl ?_
  refine lv_icmp_ge (tgt := 291) hx hb dX11_news_256 (by decide) (fun hc5 => ?_) (fun hc5 => ?_)
  · have hf := it_p hf hc5
    refine lv_iload hx hb dX11_news_291 (lv_at hl 1 rfl) ?_
    refine lv_ldc (v := (268435456 : Int32)) hx hb hown (hts _ q5_216) dX11_news_293 ?_
    refine lv_icmp_lt (tgt := 302) hx hb dX11_news_295 (by decide) (fun hc1 => ?_) (fun hc1 => ?_)
    · have hf := it_p hf hc1
      refine lv_iload hx hb dX11_news_302 (lv_at hl 1 rfl) ?_
      obtain ⟨rfl, rfl⟩ := so2 hf
      exact r_iret C hw rfl dX11_news_304
    · have hf := it_n hf hc1
      refine lv_iconst (v := (-1 : Int32)) hx hb dX11_news_298 rfl ?_
      refine lv_goto (tgt := 304) hx hb dX11_news_299 (by decide) ?_
      obtain ⟨rfl, rfl⟩ := so2 hf
      exact r_iret C hw rfl dX11_news_304
  · have hf := it_n hf hc5
    refine lv_aload_n hx hb dX11_news_259 rfl (lv_at hl 0 rfl) ?_
    refine r_get C hw 0 rfl cf_X11 22 (by decide) q4_195 (v := .ref (zm 11)) rfl dX11_news_260 ?_
    refine lv_iload hx hb dX11_news_263 (lv_at hl 2 rfl) ?_
    obtain ⟨hi2, hf⟩ := it_g hf
    refine r_iald C hw 11 (f := (Tm 11)) rfl hi2 dX11_news_265 ?_
    refine lv_iload hx hb dX11_news_266 (lv_at hl 1 rfl) ?_
    refine lv_icmp_ge (tgt := 281) hx hb dX11_news_268 (by decide) (fun hc4 => ?_) (fun hc4 => ?_)
    · have hf := it_p hf hc4
      refine lv_iload hx hb dX11_news_281 (lv_at hl 1 rfl) ?_
      refine lv_istore (lv' := [(5, .int x5), (0, .ref (zm 0)), (6, .int x6)]) hx hb dX11_news_283 hl (by decide) rfl (fun ls hl => ?_)
      refine lv_iinc (v := (x6 + (1 : Int32))) (lv' := [(6, .int (x6 + (1 : Int32))), (5, .int x5), (0, .ref (zm 0))]) hx hb dX11_news_285 hl (k := 2) rfl rfl (by decide) rfl (fun ls hl => ?_)
      refine lv_goto (tgt := 253) hx hb dX11_news_288 (by decide) ?_
      exact hr253 _ _ _ _ _ _ hf hw (lv_sub hl [2, 1, 0] rfl)
    · have hf := it_n hf hc4
      refine lv_aload_n hx hb dX11_news_271 rfl (lv_at hl 0 rfl) ?_
      refine r_get C hw 0 rfl cf_X11 22 (by decide) q4_195 (v := .ref (zm 11)) rfl dX11_news_272 ?_
      refine lv_iload hx hb dX11_news_275 (lv_at hl 2 rfl) ?_
      obtain ⟨hi3, hf⟩ := it_g hf
      refine r_iald C hw 11 (f := (Tm 11)) rfl hi3 dX11_news_277 ?_
      refine lv_goto (tgt := 283) hx hb dX11_news_278 (by decide) ?_
      refine lv_istore (lv' := [(5, .int (Tm 11 x6.toNatClampNeg)), (0, .ref (zm 0)), (6, .int x6)]) hx hb dX11_news_283 hl (by decide) rfl (fun ls hl => ?_)
      refine lv_iinc (v := (x6 + (1 : Int32))) (lv' := [(6, .int (x6 + (1 : Int32))), (5, .int (Tm 11 x6.toNatClampNeg)), (0, .ref (zm 0))]) hx hb dX11_news_285 hl (k := 2) rfl rfl (by decide) rfl (fun ls hl => ?_)
      refine lv_goto (tgt := 253) hx hb dX11_news_288 (by decide) ?_
      exact hr253 _ _ _ _ _ _ hf hw (lv_sub hl [2, 1, 0] rfl)
set_option maxRecDepth 100000 in
set_option maxHeartbeats 4000000 in
theorem klX11_news_253 {l : Launch} {g : evG} {p : Program} {e : Env} {s : State} {m : MethodId} {args : Array Value} {below : List Frame} {meth : Method} {c : Code} {A : Nat → Prop} {zm : Nat → Nat} {r : Int32} {om : Gp} (C : ctx g p s m args meth c RX11 cX11_news 10 (some .int) A) : ∀ (n : Nat) (Tm : Gp) (x5 : Int32) (x6 : Int32) (H : Heap) (locs : List Loc) (ls : Array Slot), lX11_news_253 n Tm x5 x6 = some (r, om) → wl g A s.heap (gcM g zm Tm) H locs → lv_has ls 10 [(0, .ref (zm 0)), (5, .int x5), (6, .int x6)] → W p l e (rmK 1 25) s m args below meth c H locs 0 0 (MQ below (Qi g A (gcM g zm om) r) args s 0 0 A) (F0 m 253 ls []) := by
  intro n
  induction n with
  | zero => intro _ _ _ _ _ _ hf; exact no_f hf
  | succ n ih => intro _ _ _ _ _ _ hf hw hl; exact kX11_news_253 (zm := zm) (r := r) (om := om) C (rec253 := lX11_news_253 n) ih hf hw hl
set_option maxRecDepth 100000 in
set_option maxHeartbeats 4000000 in
theorem kX11_news_214 {l : Launch} {g : evG} {p : Program} {e : Env} {s : State} {m : MethodId} {args : Array Value} {below : List Frame} {meth : Method} {c : Code} {A : Nat → Prop} {zm : Nat → Nat} {r : Int32} {om : Gp} (C : ctx g p s m args meth c RX11 cX11_news 10 (some .int) A) {rec63 : Gp → Int32 → Int32 → Int32 → Int32 → Int32 → Option (Int32 × Gp)} {rec214 : Gp → Int32 → Int32 → Int32 → Int32 → Int32 → Int32 → Option (Int32 × Gp)} (hr63 : ∀ (Tm : Gp) (x1 : Int32) (x2 : Int32) (x3 : Int32) (x4 : Int32) (x5 : Int32) (H : Heap) (locs : List Loc) (ls : Array Slot), rec63 Tm x1 x2 x3 x4 x5 = some (r, om) → wl g A s.heap (gcM g zm Tm) H locs → lv_has ls 10 [(0, .ref (zm 0)), (1, .int x1), (2, .int x2), (3, .int x3), (4, .int x4), (5, .int x5)] → W p l e (rmK 1 25) s m args below meth c H locs 0 0 (MQ below (Qi g A (gcM g zm om) r) args s 0 0 A) (F0 m 63 ls [])) (hr214 : ∀ (Tm : Gp) (x1 : Int32) (x2 : Int32) (x3 : Int32) (x4 : Int32) (x5 : Int32) (x6 : Int32) (H : Heap) (locs : List Loc) (ls : Array Slot), rec214 Tm x1 x2 x3 x4 x5 x6 = some (r, om) → wl g A s.heap (gcM g zm Tm) H locs → lv_has ls 10 [(0, .ref (zm 0)), (1, .int x1), (2, .int x2), (3, .int x3), (4, .int x4), (5, .int x5), (6, .int x6)] → W p l e (rmK 1 25) s m args below meth c H locs 0 0 (MQ below (Qi g A (gcM g zm om) r) args s 0 0 A) (F0 m 214 ls [])) {Tm : Gp} {x1 : Int32} {x2 : Int32} {x3 : Int32} {x4 : Int32} {x5 : Int32} {x6 : Int32} {H : Heap} {locs : List Loc} {ls : Array Slot} (hf : fX11_news_214 rec63 rec214 Tm x1 x2 x3 x4 x5 x6 = some (r, om)) (hw : wl g A s.heap (gcM g zm Tm) H locs) (hl : lv_has ls 10 [(0, .ref (zm 0)), (1, .int x1), (2, .int x2), (3, .int x3), (4, .int x4), (5, .int x5), (6, .int x6)]) : W p l e (rmK 1 25) s m args below meth c H locs 0 0 (MQ below (Qi g A (gcM g zm om) r) args s 0 0 A) (F0 m 214 ls []) := by
  obtain ⟨hx, hb, hml, hown, hts, -⟩ := id C
  unfold fX11_news_214 at hf
  refine lv_iload hx hb dX11_news_214 (lv_at hl 6 rfl) ?_
  refine lv_iconst (v := (4 : Int32)) hx hb dX11_news_216 rfl ?_
  refine lv_icmp_ge (tgt := 240) hx hb dX11_news_217 (by decide) (fun hc3 => ?_) (fun hc3 => ?_)
  · have hf := it_p hf hc3
    refine lv_iinc (v := (x5 + (1 : Int32))) (lv' := [(5, .int (x5 + (1 : Int32))), (0, .ref (zm 0)), (1, .int x1), (2, .int x2), (3, .int x3), (4, .int x4), (6, .int x6)]) hx hb dX11_news_240 hl (k := 5) rfl rfl (by decide) rfl (fun ls hl => ?_)
    refine lv_goto (tgt := 63) hx hb dX11_news_243 (by decide) ?_
    exact hr63 _ _ _ _ _ _ _ _ _ hf hw (lv_sub hl [1, 2, 3, 4, 5, 0] rfl)
  · have hf := it_n hf hc3
    refine lv_aload_n hx hb dX11_news_220 rfl (lv_at hl 0 rfl) ?_
    refine r_get C hw 0 rfl cf_X11 22 (by decide) q4_195 (v := .ref (zm 11)) rfl dX11_news_221 ?_
    refine lv_iload hx hb dX11_news_224 (lv_at hl 6 rfl) ?_
    refine lv_aload_n hx hb dX11_news_226 rfl (lv_at hl 0 rfl) ?_
    refine r_get C hw 0 rfl cf_X11 23 (by decide) q4_196 (v := .ref (zm 12)) rfl dX11_news_227 ?_
    refine lv_iload hx hb dX11_news_230 (lv_at hl 6 rfl) ?_
    obtain ⟨hi1, hf⟩ := it_g hf
    refine r_iald C hw 12 (f := (Tm 12)) rfl hi1 dX11_news_232 ?_
    obtain ⟨hi2, hf⟩ := it_g hf
    refine r_iast C hw 11 (f := (Tm 11)) rfl hi2 (ws' := (gcM g zm (u2 Tm 11 x6.toNatClampNeg (Tm 12 x6.toNatClampNeg)))) gcM_a11 dX11_news_233 (fun H locs hw => ?_)
    refine lv_iinc (v := (x6 + (1 : Int32))) (lv' := [(6, .int (x6 + (1 : Int32))), (0, .ref (zm 0)), (1, .int x1), (2, .int x2), (3, .int x3), (4, .int x4), (5, .int x5)]) hx hb dX11_news_234 hl (k := 6) rfl rfl (by decide) rfl (fun ls hl => ?_)
    refine lv_goto (tgt := 214) hx hb dX11_news_237 (by decide) ?_
    exact hr214 _ _ _ _ _ _ _ _ _ _ hf hw (lv_sub hl [1, 2, 3, 4, 5, 6, 0] rfl)
set_option maxRecDepth 100000 in
set_option maxHeartbeats 4000000 in
theorem klX11_news_214 {l : Launch} {g : evG} {p : Program} {e : Env} {s : State} {m : MethodId} {args : Array Value} {below : List Frame} {meth : Method} {c : Code} {A : Nat → Prop} {zm : Nat → Nat} {r : Int32} {om : Gp} (C : ctx g p s m args meth c RX11 cX11_news 10 (some .int) A) {rec63 : Gp → Int32 → Int32 → Int32 → Int32 → Int32 → Option (Int32 × Gp)} (hr63 : ∀ (Tm : Gp) (x1 : Int32) (x2 : Int32) (x3 : Int32) (x4 : Int32) (x5 : Int32) (H : Heap) (locs : List Loc) (ls : Array Slot), rec63 Tm x1 x2 x3 x4 x5 = some (r, om) → wl g A s.heap (gcM g zm Tm) H locs → lv_has ls 10 [(0, .ref (zm 0)), (1, .int x1), (2, .int x2), (3, .int x3), (4, .int x4), (5, .int x5)] → W p l e (rmK 1 25) s m args below meth c H locs 0 0 (MQ below (Qi g A (gcM g zm om) r) args s 0 0 A) (F0 m 63 ls [])) : ∀ (n : Nat) (Tm : Gp) (x1 : Int32) (x2 : Int32) (x3 : Int32) (x4 : Int32) (x5 : Int32) (x6 : Int32) (H : Heap) (locs : List Loc) (ls : Array Slot), lX11_news_214 rec63 n Tm x1 x2 x3 x4 x5 x6 = some (r, om) → wl g A s.heap (gcM g zm Tm) H locs → lv_has ls 10 [(0, .ref (zm 0)), (1, .int x1), (2, .int x2), (3, .int x3), (4, .int x4), (5, .int x5), (6, .int x6)] → W p l e (rmK 1 25) s m args below meth c H locs 0 0 (MQ below (Qi g A (gcM g zm om) r) args s 0 0 A) (F0 m 214 ls []) := by
  intro n
  induction n with
  | zero => intro _ _ _ _ _ _ _ _ _ _ hf; exact no_f hf
  | succ n ih => intro _ _ _ _ _ _ _ _ _ _ hf hw hl; exact kX11_news_214 (zm := zm) (r := r) (om := om) C hr63 (rec214 := lX11_news_214 rec63 n) ih hf hw hl
set_option maxRecDepth 100000 in
set_option maxHeartbeats 4000000 in
theorem kX11_news_191 {l : Launch} {g : evG} {p : Program} {e : Env} {s : State} {m : MethodId} {args : Array Value} {below : List Frame} {meth : Method} {c : Code} {A : Nat → Prop} {zm : Nat → Nat} {r : Int32} {om : Gp} (C : ctx g p s m args meth c RX11 cX11_news 10 (some .int) A) {rec63 : Gp → Int32 → Int32 → Int32 → Int32 → Int32 → Option (Int32 × Gp)} {rec72 : Gp → Int32 → Int32 → Int32 → Int32 → Int32 → Int32 → Option (Int32 × Gp)} {rec90 : Gp → Int32 → Int32 → Int32 → Int32 → Int32 → Int32 → Int32 → Option (Int32 × Gp)} (hr63 : ∀ (Tm : Gp) (x1 : Int32) (x2 : Int32) (x3 : Int32) (x4 : Int32) (x5 : Int32) (H : Heap) (locs : List Loc) (ls : Array Slot), rec63 Tm x1 x2 x3 x4 x5 = some (r, om) → wl g A s.heap (gcM g zm Tm) H locs → lv_has ls 10 [(0, .ref (zm 0)), (1, .int x1), (2, .int x2), (3, .int x3), (4, .int x4), (5, .int x5)] → W p l e (rmK 1 25) s m args below meth c H locs 0 0 (MQ below (Qi g A (gcM g zm om) r) args s 0 0 A) (F0 m 63 ls [])) (hr72 : ∀ (Tm : Gp) (x1 : Int32) (x2 : Int32) (x3 : Int32) (x4 : Int32) (x5 : Int32) (x6 : Int32) (H : Heap) (locs : List Loc) (ls : Array Slot), rec72 Tm x1 x2 x3 x4 x5 x6 = some (r, om) → wl g A s.heap (gcM g zm Tm) H locs → lv_has ls 10 [(0, .ref (zm 0)), (1, .int x1), (2, .int x2), (3, .int x3), (4, .int x4), (5, .int x5), (6, .int x6)] → W p l e (rmK 1 25) s m args below meth c H locs 0 0 (MQ below (Qi g A (gcM g zm om) r) args s 0 0 A) (F0 m 72 ls [])) (hr90 : ∀ (Tm : Gp) (x1 : Int32) (x2 : Int32) (x3 : Int32) (x4 : Int32) (x5 : Int32) (x6 : Int32) (x7 : Int32) (H : Heap) (locs : List Loc) (ls : Array Slot), rec90 Tm x1 x2 x3 x4 x5 x6 x7 = some (r, om) → wl g A s.heap (gcM g zm Tm) H locs → lv_has ls 10 [(0, .ref (zm 0)), (1, .int x1), (2, .int x2), (3, .int x3), (4, .int x4), (5, .int x5), (6, .int x6), (7, .int x7)] → W p l e (rmK 1 25) s m args below meth c H locs 0 0 (MQ below (Qi g A (gcM g zm om) r) args s 0 0 A) (F0 m 90 ls [])) {Tm : Gp} {x1 : Int32} {x2 : Int32} {x3 : Int32} {x4 : Int32} {x5 : Int32} {x6 : Int32} {x7 : Int32} {y1 : Int32} {H : Heap} {locs : List Loc} {ls : Array Slot} (hf : fX11_news_191 rec63 rec72 rec90 Tm x1 x2 x3 x4 x5 x6 x7 y1 = some (r, om)) (hw : wl g A s.heap (gcM g zm Tm) H locs) (hl : lv_has ls 10 [(0, .ref (zm 0)), (1, .int x1), (2, .int x2), (3, .int x3), (4, .int x4), (5, .int x5), (6, .int x6), (7, .int x7)]) : W p l e (rmK 1 25) s m args below meth c H locs 0 0 (MQ below (Qi g A (gcM g zm om) r) args s 0 0 A) (F0 m 191 ls [.int y1, .ref (zm 12)]) := by
  obtain ⟨hx, hb, hml, hown, hts, -⟩ := id C
  unfold fX11_news_191 at hf
  refine lv_aload_n hx hb dX11_news_191 rfl (lv_at hl 0 rfl) ?_
  refine r_get C hw 0 rfl cf_X11 23 (by decide) q4_196 (v := .ref (zm 12)) rfl dX11_news_192 ?_
  refine lv_iload hx hb dX11_news_195 (lv_at hl 6 rfl) ?_
  obtain ⟨hi1, hf⟩ := it_g hf
  refine r_iald C hw 12 (f := (Tm 12)) rfl hi1 dX11_news_197 ?_
  obtain ⟨hi2, hf⟩ := it_g hf
  refine r_iast C hw 12 (f := (Tm 12)) rfl hi2 (ws' := (gcM g zm (u2 Tm 12 y1.toNatClampNeg (Tm 12 x6.toNatClampNeg)))) gcM_a12 dX11_news_198 (fun H locs hw => ?_)
  refine lv_iinc (v := (x7 + (1 : Int32))) (lv' := [(7, .int (x7 + (1 : Int32))), (0, .ref (zm 0)), (1, .int x1), (2, .int x2), (3, .int x3), (4, .int x4), (5, .int x5), (6, .int x6)]) hx hb dX11_news_199 hl (k := 7) rfl rfl (by decide) rfl (fun ls hl => ?_)
  refine lv_goto (tgt := 90) hx hb dX11_news_202 (by decide) ?_
  exact hr90 _ _ _ _ _ _ _ _ _ _ _ hf hw (lv_sub hl [1, 2, 3, 4, 5, 6, 7, 0] rfl)
set_option maxRecDepth 100000 in
set_option maxHeartbeats 4000000 in
theorem kX11_news_161 {l : Launch} {g : evG} {p : Program} {e : Env} {s : State} {m : MethodId} {args : Array Value} {below : List Frame} {meth : Method} {c : Code} {A : Nat → Prop} {zm : Nat → Nat} {r : Int32} {om : Gp} (C : ctx g p s m args meth c RX11 cX11_news 10 (some .int) A) {rec63 : Gp → Int32 → Int32 → Int32 → Int32 → Int32 → Option (Int32 × Gp)} {rec72 : Gp → Int32 → Int32 → Int32 → Int32 → Int32 → Int32 → Option (Int32 × Gp)} {rec90 : Gp → Int32 → Int32 → Int32 → Int32 → Int32 → Int32 → Int32 → Option (Int32 × Gp)} (hr63 : ∀ (Tm : Gp) (x1 : Int32) (x2 : Int32) (x3 : Int32) (x4 : Int32) (x5 : Int32) (H : Heap) (locs : List Loc) (ls : Array Slot), rec63 Tm x1 x2 x3 x4 x5 = some (r, om) → wl g A s.heap (gcM g zm Tm) H locs → lv_has ls 10 [(0, .ref (zm 0)), (1, .int x1), (2, .int x2), (3, .int x3), (4, .int x4), (5, .int x5)] → W p l e (rmK 1 25) s m args below meth c H locs 0 0 (MQ below (Qi g A (gcM g zm om) r) args s 0 0 A) (F0 m 63 ls [])) (hr72 : ∀ (Tm : Gp) (x1 : Int32) (x2 : Int32) (x3 : Int32) (x4 : Int32) (x5 : Int32) (x6 : Int32) (H : Heap) (locs : List Loc) (ls : Array Slot), rec72 Tm x1 x2 x3 x4 x5 x6 = some (r, om) → wl g A s.heap (gcM g zm Tm) H locs → lv_has ls 10 [(0, .ref (zm 0)), (1, .int x1), (2, .int x2), (3, .int x3), (4, .int x4), (5, .int x5), (6, .int x6)] → W p l e (rmK 1 25) s m args below meth c H locs 0 0 (MQ below (Qi g A (gcM g zm om) r) args s 0 0 A) (F0 m 72 ls [])) (hr90 : ∀ (Tm : Gp) (x1 : Int32) (x2 : Int32) (x3 : Int32) (x4 : Int32) (x5 : Int32) (x6 : Int32) (x7 : Int32) (H : Heap) (locs : List Loc) (ls : Array Slot), rec90 Tm x1 x2 x3 x4 x5 x6 x7 = some (r, om) → wl g A s.heap (gcM g zm Tm) H locs → lv_has ls 10 [(0, .ref (zm 0)), (1, .int x1), (2, .int x2), (3, .int x3), (4, .int x4), (5, .int x5), (6, .int x6), (7, .int x7)] → W p l e (rmK 1 25) s m args below meth c H locs 0 0 (MQ below (Qi g A (gcM g zm om) r) args s 0 0 A) (F0 m 90 ls [])) {Tm : Gp} {x1 : Int32} {x2 : Int32} {x3 : Int32} {x4 : Int32} {x5 : Int32} {x6 : Int32} {x7 : Int32} {x8 : Int32} {y0 : Int32} {H : Heap} {locs : List Loc} {ls : Array Slot} (hf : fX11_news_161 rec63 rec72 rec90 Tm x1 x2 x3 x4 x5 x6 x7 x8 y0 = some (r, om)) (hw : wl g A s.heap (gcM g zm Tm) H locs) (hl : lv_has ls 10 [(0, .ref (zm 0)), (1, .int x1), (2, .int x2), (3, .int x3), (4, .int x4), (5, .int x5), (6, .int x6), (7, .int x7), (8, .int x8)]) : W p l e (rmK 1 25) s m args below meth c H locs 0 0 (MQ below (Qi g A (gcM g zm om) r) args s 0 0 A) (F0 m 161 ls [.int y0]) := by
  obtain ⟨hx, hb, hml, hown, hts, -⟩ := id C
  unfold fX11_news_161 at hf
  refine lv_istore (lv' := [(9, .int y0), (0, .ref (zm 0)), (1, .int x1), (2, .int x2), (3, .int x3), (4, .int x4), (5, .int x5), (6, .int x6), (7, .int x7), (8, .int x8)]) hx hb dX11_news_161 hl (by decide) rfl (fun ls hl => ?_)
  refine lv_aload_n hx hb dX11_news_163 rfl (lv_at hl 1 rfl) ?_
  refine r_get C hw 0 rfl cf_X11 23 (by decide) q4_196 (v := .ref (zm 12)) rfl dX11_news_164 ?_
  refine lv_iload hx hb dX11_news_167 (lv_at hl 7 rfl) ?_
  refine lv_iload hx hb dX11_news_169 (lv_at hl 0 rfl) ?_
  refine lv_if_eq (tgt := 191) hx hb dX11_news_171 (by decide) (fun hc4 => ?_) (fun hc4 => ?_)
  · have hf := it_p hf hc4
    exact kX11_news_191 (zm := zm) (r := r) (om := om) C hr63 hr72 hr90 hf hw (lv_sub hl [1, 2, 3, 4, 5, 6, 7, 8] rfl)
  · have hf := it_n hf hc4
    refine lv_iload hx hb dX11_news_174 (lv_at hl 9 rfl) ?_
    refine lv_aload_n hx hb dX11_news_176 rfl (lv_at hl 1 rfl) ?_
    refine r_get C hw 0 rfl cf_X11 23 (by decide) q4_196 (v := .ref (zm 12)) rfl dX11_news_177 ?_
    refine lv_iload hx hb dX11_news_180 (lv_at hl 7 rfl) ?_
    obtain ⟨hi1, hf⟩ := it_g hf
    refine r_iald C hw 12 (f := (Tm 12)) rfl hi1 dX11_news_182 ?_
    refine lv_icmp_ge (tgt := 191) hx hb dX11_news_183 (by decide) (fun hc3 => ?_) (fun hc3 => ?_)
    · have hf := it_p hf hc3
      exact kX11_news_191 (zm := zm) (r := r) (om := om) C hr63 hr72 hr90 hf hw (lv_sub hl [1, 2, 3, 4, 5, 6, 7, 8] rfl)
    · have hf := it_n hf hc3
      refine lv_iload hx hb dX11_news_186 (lv_at hl 9 rfl) ?_
      refine lv_goto (tgt := 198) hx hb dX11_news_188 (by decide) ?_
      obtain ⟨hi2, hf⟩ := it_g hf
      refine r_iast C hw 12 (f := (Tm 12)) rfl hi2 (ws' := (gcM g zm (u2 Tm 12 x6.toNatClampNeg x8))) gcM_a12 dX11_news_198 (fun H locs hw => ?_)
      refine lv_iinc (v := (x7 + (1 : Int32))) (lv' := [(7, .int (x7 + (1 : Int32))), (9, .int y0), (0, .ref (zm 0)), (1, .int x1), (2, .int x2), (3, .int x3), (4, .int x4), (5, .int x5), (6, .int x6), (8, .int x8)]) hx hb dX11_news_199 hl (k := 8) rfl rfl (by decide) rfl (fun ls hl => ?_)
      refine lv_goto (tgt := 90) hx hb dX11_news_202 (by decide) ?_
      exact hr90 _ _ _ _ _ _ _ _ _ _ _ hf hw (lv_sub hl [2, 3, 4, 5, 6, 7, 8, 0] rfl)
set_option maxRecDepth 100000 in
set_option maxHeartbeats 4000000 in
theorem kX11_news_151 {l : Launch} {g : evG} {p : Program} {e : Env} {s : State} {m : MethodId} {args : Array Value} {below : List Frame} {meth : Method} {c : Code} {A : Nat → Prop} {zm : Nat → Nat} {r : Int32} {om : Gp} (C : ctx g p s m args meth c RX11 cX11_news 10 (some .int) A) {rec63 : Gp → Int32 → Int32 → Int32 → Int32 → Int32 → Option (Int32 × Gp)} {rec72 : Gp → Int32 → Int32 → Int32 → Int32 → Int32 → Int32 → Option (Int32 × Gp)} {rec90 : Gp → Int32 → Int32 → Int32 → Int32 → Int32 → Int32 → Int32 → Option (Int32 × Gp)} (hr63 : ∀ (Tm : Gp) (x1 : Int32) (x2 : Int32) (x3 : Int32) (x4 : Int32) (x5 : Int32) (H : Heap) (locs : List Loc) (ls : Array Slot), rec63 Tm x1 x2 x3 x4 x5 = some (r, om) → wl g A s.heap (gcM g zm Tm) H locs → lv_has ls 10 [(0, .ref (zm 0)), (1, .int x1), (2, .int x2), (3, .int x3), (4, .int x4), (5, .int x5)] → W p l e (rmK 1 25) s m args below meth c H locs 0 0 (MQ below (Qi g A (gcM g zm om) r) args s 0 0 A) (F0 m 63 ls [])) (hr72 : ∀ (Tm : Gp) (x1 : Int32) (x2 : Int32) (x3 : Int32) (x4 : Int32) (x5 : Int32) (x6 : Int32) (H : Heap) (locs : List Loc) (ls : Array Slot), rec72 Tm x1 x2 x3 x4 x5 x6 = some (r, om) → wl g A s.heap (gcM g zm Tm) H locs → lv_has ls 10 [(0, .ref (zm 0)), (1, .int x1), (2, .int x2), (3, .int x3), (4, .int x4), (5, .int x5), (6, .int x6)] → W p l e (rmK 1 25) s m args below meth c H locs 0 0 (MQ below (Qi g A (gcM g zm om) r) args s 0 0 A) (F0 m 72 ls [])) (hr90 : ∀ (Tm : Gp) (x1 : Int32) (x2 : Int32) (x3 : Int32) (x4 : Int32) (x5 : Int32) (x6 : Int32) (x7 : Int32) (H : Heap) (locs : List Loc) (ls : Array Slot), rec90 Tm x1 x2 x3 x4 x5 x6 x7 = some (r, om) → wl g A s.heap (gcM g zm Tm) H locs → lv_has ls 10 [(0, .ref (zm 0)), (1, .int x1), (2, .int x2), (3, .int x3), (4, .int x4), (5, .int x5), (6, .int x6), (7, .int x7)] → W p l e (rmK 1 25) s m args below meth c H locs 0 0 (MQ below (Qi g A (gcM g zm om) r) args s 0 0 A) (F0 m 90 ls [])) {Tm : Gp} {x1 : Int32} {x2 : Int32} {x3 : Int32} {x4 : Int32} {x5 : Int32} {x6 : Int32} {x7 : Int32} {x8 : Int32} {y0 : Int32} {H : Heap} {locs : List Loc} {ls : Array Slot} (hf : fX11_news_151 rec63 rec72 rec90 Tm x1 x2 x3 x4 x5 x6 x7 x8 y0 = some (r, om)) (hw : wl g A s.heap (gcM g zm Tm) H locs) (hl : lv_has ls 10 [(0, .ref (zm 0)), (1, .int x1), (2, .int x2), (3, .int x3), (4, .int x4), (5, .int x5), (6, .int x6), (7, .int x7), (8, .int x8)]) : W p l e (rmK 1 25) s m args below meth c H locs 0 0 (MQ below (Qi g A (gcM g zm om) r) args s 0 0 A) (F0 m 151 ls [.int y0]) := by
  obtain ⟨hx, hb, hml, hown, hts, -⟩ := id C
  unfold fX11_news_151 at hf
  refine lv_iload hx hb dX11_news_151 (lv_at hl 4 rfl) ?_
  refine lv_icmp_ne (tgt := 160) hx hb dX11_news_153 (by decide) (fun hc1 => ?_) (fun hc1 => ?_)
  · have hf := it_n hf hc1
    refine lv_iconst (v := (0 : Int32)) hx hb dX11_news_160 rfl ?_
    exact kX11_news_161 (zm := zm) (r := r) (om := om) C hr63 hr72 hr90 hf hw (lv_sub hl [0, 1, 2, 3, 4, 5, 6, 7, 8] rfl)
  · have hf := it_p hf hc1
    refine lv_iconst (v := (1 : Int32)) hx hb dX11_news_156 rfl ?_
    refine lv_goto (tgt := 161) hx hb dX11_news_157 (by decide) ?_
    exact kX11_news_161 (zm := zm) (r := r) (om := om) C hr63 hr72 hr90 hf hw (lv_sub hl [0, 1, 2, 3, 4, 5, 6, 7, 8] rfl)
set_option maxRecDepth 100000 in
set_option maxHeartbeats 4000000 in
theorem kX11_news_133 {l : Launch} {g : evG} {p : Program} {e : Env} {s : State} {m : MethodId} {args : Array Value} {below : List Frame} {meth : Method} {c : Code} {A : Nat → Prop} {zm : Nat → Nat} {r : Int32} {om : Gp} (C : ctx g p s m args meth c RX11 cX11_news 10 (some .int) A) {rec63 : Gp → Int32 → Int32 → Int32 → Int32 → Int32 → Option (Int32 × Gp)} {rec72 : Gp → Int32 → Int32 → Int32 → Int32 → Int32 → Int32 → Option (Int32 × Gp)} {rec90 : Gp → Int32 → Int32 → Int32 → Int32 → Int32 → Int32 → Int32 → Option (Int32 × Gp)} (hr63 : ∀ (Tm : Gp) (x1 : Int32) (x2 : Int32) (x3 : Int32) (x4 : Int32) (x5 : Int32) (H : Heap) (locs : List Loc) (ls : Array Slot), rec63 Tm x1 x2 x3 x4 x5 = some (r, om) → wl g A s.heap (gcM g zm Tm) H locs → lv_has ls 10 [(0, .ref (zm 0)), (1, .int x1), (2, .int x2), (3, .int x3), (4, .int x4), (5, .int x5)] → W p l e (rmK 1 25) s m args below meth c H locs 0 0 (MQ below (Qi g A (gcM g zm om) r) args s 0 0 A) (F0 m 63 ls [])) (hr72 : ∀ (Tm : Gp) (x1 : Int32) (x2 : Int32) (x3 : Int32) (x4 : Int32) (x5 : Int32) (x6 : Int32) (H : Heap) (locs : List Loc) (ls : Array Slot), rec72 Tm x1 x2 x3 x4 x5 x6 = some (r, om) → wl g A s.heap (gcM g zm Tm) H locs → lv_has ls 10 [(0, .ref (zm 0)), (1, .int x1), (2, .int x2), (3, .int x3), (4, .int x4), (5, .int x5), (6, .int x6)] → W p l e (rmK 1 25) s m args below meth c H locs 0 0 (MQ below (Qi g A (gcM g zm om) r) args s 0 0 A) (F0 m 72 ls [])) (hr90 : ∀ (Tm : Gp) (x1 : Int32) (x2 : Int32) (x3 : Int32) (x4 : Int32) (x5 : Int32) (x6 : Int32) (x7 : Int32) (H : Heap) (locs : List Loc) (ls : Array Slot), rec90 Tm x1 x2 x3 x4 x5 x6 x7 = some (r, om) → wl g A s.heap (gcM g zm Tm) H locs → lv_has ls 10 [(0, .ref (zm 0)), (1, .int x1), (2, .int x2), (3, .int x3), (4, .int x4), (5, .int x5), (6, .int x6), (7, .int x7)] → W p l e (rmK 1 25) s m args below meth c H locs 0 0 (MQ below (Qi g A (gcM g zm om) r) args s 0 0 A) (F0 m 90 ls [])) {Tm : Gp} {x1 : Int32} {x2 : Int32} {x3 : Int32} {x4 : Int32} {x5 : Int32} {x6 : Int32} {x7 : Int32} {y0 : Int32} {H : Heap} {locs : List Loc} {ls : Array Slot} (hf : fX11_news_133 rec63 rec72 rec90 Tm x1 x2 x3 x4 x5 x6 x7 y0 = some (r, om)) (hw : wl g A s.heap (gcM g zm Tm) H locs) (hl : lv_has ls 10 [(0, .ref (zm 0)), (1, .int x1), (2, .int x2), (3, .int x3), (4, .int x4), (5, .int x5), (6, .int x6), (7, .int x7)]) : W p l e (rmK 1 25) s m args below meth c H locs 0 0 (MQ below (Qi g A (gcM g zm om) r) args s 0 0 A) (F0 m 133 ls [.int y0]) := by
  obtain ⟨hx, hb, hml, hown, hts, -⟩ := id C
  unfold fX11_news_133 at hf
  refine lv_istore (lv' := [(8, .int y0), (0, .ref (zm 0)), (1, .int x1), (2, .int x2), (3, .int x3), (4, .int x4), (5, .int x5), (6, .int x6), (7, .int x7)]) hx hb dX11_news_133 hl (by decide) rfl (fun ls hl => ?_)
  refine lv_iload_n hx hb dX11_news_135 rfl (lv_at hl 2 rfl) ?_
  refine lv_iload hx hb dX11_news_136 (lv_at hl 6 rfl) ?_
  obtain ⟨r1, hc2, hf⟩ := bd1_e hf
  refine r_callSi0 C hw (c_X11_classAt hc2) md_X11_classAt [] rfl rfl q5_217 ⟨Nat.le_of_ble_eq_true rfl, Nat.le_of_ble_eq_true rfl⟩ ⟨Nat.zero_le _, Nat.zero_le _⟩ hl.1 rfl rfl (Nat.le_of_ble_eq_true rfl) dX11_news_138 (fun H locs hw => ?_)
  refine lv_iload hx hb dX11_news_141 (lv_at hl 7 rfl) ?_
  refine lv_icmp_ne (tgt := 150) hx hb dX11_news_143 (by decide) (fun hc3 => ?_) (fun hc3 => ?_)
  · have hf := it_n hf hc3
    refine lv_iconst (v := (0 : Int32)) hx hb dX11_news_150 rfl ?_
    exact kX11_news_151 (zm := zm) (r := r) (om := om) C hr63 hr72 hr90 hf hw (lv_sub hl [1, 2, 3, 4, 5, 6, 7, 8, 0] rfl)
  · have hf := it_p hf hc3
    refine lv_iconst (v := (1 : Int32)) hx hb dX11_news_146 rfl ?_
    refine lv_goto (tgt := 151) hx hb dX11_news_147 (by decide) ?_
    exact kX11_news_151 (zm := zm) (r := r) (om := om) C hr63 hr72 hr90 hf hw (lv_sub hl [1, 2, 3, 4, 5, 6, 7, 8, 0] rfl)
set_option maxRecDepth 100000 in
set_option maxHeartbeats 4000000 in
theorem kX11_news_90 {l : Launch} {g : evG} {p : Program} {e : Env} {s : State} {m : MethodId} {args : Array Value} {below : List Frame} {meth : Method} {c : Code} {A : Nat → Prop} {zm : Nat → Nat} {r : Int32} {om : Gp} (C : ctx g p s m args meth c RX11 cX11_news 10 (some .int) A) {rec63 : Gp → Int32 → Int32 → Int32 → Int32 → Int32 → Option (Int32 × Gp)} {rec72 : Gp → Int32 → Int32 → Int32 → Int32 → Int32 → Int32 → Option (Int32 × Gp)} {rec90 : Gp → Int32 → Int32 → Int32 → Int32 → Int32 → Int32 → Int32 → Option (Int32 × Gp)} (hr63 : ∀ (Tm : Gp) (x1 : Int32) (x2 : Int32) (x3 : Int32) (x4 : Int32) (x5 : Int32) (H : Heap) (locs : List Loc) (ls : Array Slot), rec63 Tm x1 x2 x3 x4 x5 = some (r, om) → wl g A s.heap (gcM g zm Tm) H locs → lv_has ls 10 [(0, .ref (zm 0)), (1, .int x1), (2, .int x2), (3, .int x3), (4, .int x4), (5, .int x5)] → W p l e (rmK 1 25) s m args below meth c H locs 0 0 (MQ below (Qi g A (gcM g zm om) r) args s 0 0 A) (F0 m 63 ls [])) (hr72 : ∀ (Tm : Gp) (x1 : Int32) (x2 : Int32) (x3 : Int32) (x4 : Int32) (x5 : Int32) (x6 : Int32) (H : Heap) (locs : List Loc) (ls : Array Slot), rec72 Tm x1 x2 x3 x4 x5 x6 = some (r, om) → wl g A s.heap (gcM g zm Tm) H locs → lv_has ls 10 [(0, .ref (zm 0)), (1, .int x1), (2, .int x2), (3, .int x3), (4, .int x4), (5, .int x5), (6, .int x6)] → W p l e (rmK 1 25) s m args below meth c H locs 0 0 (MQ below (Qi g A (gcM g zm om) r) args s 0 0 A) (F0 m 72 ls [])) (hr90 : ∀ (Tm : Gp) (x1 : Int32) (x2 : Int32) (x3 : Int32) (x4 : Int32) (x5 : Int32) (x6 : Int32) (x7 : Int32) (H : Heap) (locs : List Loc) (ls : Array Slot), rec90 Tm x1 x2 x3 x4 x5 x6 x7 = some (r, om) → wl g A s.heap (gcM g zm Tm) H locs → lv_has ls 10 [(0, .ref (zm 0)), (1, .int x1), (2, .int x2), (3, .int x3), (4, .int x4), (5, .int x5), (6, .int x6), (7, .int x7)] → W p l e (rmK 1 25) s m args below meth c H locs 0 0 (MQ below (Qi g A (gcM g zm om) r) args s 0 0 A) (F0 m 90 ls [])) {Tm : Gp} {x1 : Int32} {x2 : Int32} {x3 : Int32} {x4 : Int32} {x5 : Int32} {x6 : Int32} {x7 : Int32} {H : Heap} {locs : List Loc} {ls : Array Slot} (hf : fX11_news_90 rec63 rec72 rec90 Tm x1 x2 x3 x4 x5 x6 x7 = some (r, om)) (hw : wl g A s.heap (gcM g zm Tm) H locs) (hl : lv_has ls 10 [(0, .ref (zm 0)), (1, .int x1), (2, .int x2), (3, .int x3), (4, .int x4), (5, .int x5), (6, .int x6), (7, .int x7)]) : W p l e (rmK 1 25) s m args below meth c H locs 0 0 (MQ below (Qi g A (gcM g zm om) r) args s 0 0 A) (F0 m 90 ls []) := by
  obtain ⟨hx, hb, hml, hown, hts, -⟩ := id C
  unfold fX11_news_90 at hf
  refine lv_iload hx hb dX11_news_90 (lv_at hl 7 rfl) ?_
  refine lv_iconst (v := (4 : Int32)) hx hb dX11_news_92 rfl ?_
  refine lv_icmp_ge (tgt := 205) hx hb dX11_news_93 (by decide) (fun hc5 => ?_) (fun hc5 => ?_)
  · have hf := it_p hf hc5
    refine lv_iinc (v := (x6 + (1 : Int32))) (lv' := [(6, .int (x6 + (1 : Int32))), (0, .ref (zm 0)), (1, .int x1), (2, .int x2), (3, .int x3), (4, .int x4), (5, .int x5), (7, .int x7)]) hx hb dX11_news_205 hl (k := 6) rfl rfl (by decide) rfl (fun ls hl => ?_)
    refine lv_goto (tgt := 72) hx hb dX11_news_208 (by decide) ?_
    exact hr72 _ _ _ _ _ _ _ _ _ _ hf hw (lv_sub hl [1, 2, 3, 4, 5, 6, 0] rfl)
  · have hf := it_n hf hc5
    refine lv_iload hx hb dX11_news_96 (lv_at hl 6 rfl) ?_
    refine lv_iload hx hb dX11_news_98 (lv_at hl 7 rfl) ?_
    refine lv_icmp_ne (tgt := 113) hx hb dX11_news_100 (by decide) (fun hc4 => ?_) (fun hc4 => ?_)
    · have hf := it_n hf hc4
      refine lv_iload hx hb dX11_news_113 (lv_at hl 5 rfl) ?_
      refine lv_iload_n hx hb dX11_news_115 rfl (lv_at hl 3 rfl) ?_
      refine lv_icmp_lt (tgt := 131) hx hb dX11_news_116 (by decide) (fun hc2 => ?_) (fun hc2 => ?_)
      · have hf := it_p hf hc2
        refine lv_ldc (v := (268435456 : Int32)) hx hb hown (hts _ q5_216) dX11_news_131 ?_
        exact kX11_news_133 (zm := zm) (r := r) (om := om) C hr63 hr72 hr90 hf hw (lv_sub hl [0, 1, 2, 3, 4, 5, 6, 7] rfl)
      · have hf := it_n hf hc2
        refine lv_aload_n hx hb dX11_news_119 rfl (lv_at hl 0 rfl) ?_
        refine r_get C hw 0 rfl cf_X11 22 (by decide) q4_195 (v := .ref (zm 11)) rfl dX11_news_120 ?_
        refine lv_iload hx hb dX11_news_123 (lv_at hl 7 rfl) ?_
        obtain ⟨hi1, hf⟩ := it_g hf
        refine r_iald C hw 11 (f := (Tm 11)) rfl hi1 dX11_news_125 ?_
        refine lv_iconst (v := (1 : Int32)) hx hb dX11_news_126 rfl ?_
        refine lv_iadd hx hb dX11_news_127 ?_
        refine lv_goto (tgt := 133) hx hb dX11_news_128 (by decide) ?_
        exact kX11_news_133 (zm := zm) (r := r) (om := om) C hr63 hr72 hr90 hf hw (lv_sub hl [0, 1, 2, 3, 4, 5, 6, 7] rfl)
    · have hf := it_p hf hc4
      refine lv_aload_n hx hb dX11_news_103 rfl (lv_at hl 0 rfl) ?_
      refine r_get C hw 0 rfl cf_X11 22 (by decide) q4_195 (v := .ref (zm 11)) rfl dX11_news_104 ?_
      refine lv_iload hx hb dX11_news_107 (lv_at hl 7 rfl) ?_
      obtain ⟨hi3, hf⟩ := it_g hf
      refine r_iald C hw 11 (f := (Tm 11)) rfl hi3 dX11_news_109 ?_
      refine lv_goto (tgt := 133) hx hb dX11_news_110 (by decide) ?_
      exact kX11_news_133 (zm := zm) (r := r) (om := om) C hr63 hr72 hr90 hf hw (lv_sub hl [0, 1, 2, 3, 4, 5, 6, 7] rfl)
set_option maxRecDepth 100000 in
set_option maxHeartbeats 4000000 in
theorem klX11_news_90 {l : Launch} {g : evG} {p : Program} {e : Env} {s : State} {m : MethodId} {args : Array Value} {below : List Frame} {meth : Method} {c : Code} {A : Nat → Prop} {zm : Nat → Nat} {r : Int32} {om : Gp} (C : ctx g p s m args meth c RX11 cX11_news 10 (some .int) A) {rec63 : Gp → Int32 → Int32 → Int32 → Int32 → Int32 → Option (Int32 × Gp)} {rec72 : Gp → Int32 → Int32 → Int32 → Int32 → Int32 → Int32 → Option (Int32 × Gp)} (hr63 : ∀ (Tm : Gp) (x1 : Int32) (x2 : Int32) (x3 : Int32) (x4 : Int32) (x5 : Int32) (H : Heap) (locs : List Loc) (ls : Array Slot), rec63 Tm x1 x2 x3 x4 x5 = some (r, om) → wl g A s.heap (gcM g zm Tm) H locs → lv_has ls 10 [(0, .ref (zm 0)), (1, .int x1), (2, .int x2), (3, .int x3), (4, .int x4), (5, .int x5)] → W p l e (rmK 1 25) s m args below meth c H locs 0 0 (MQ below (Qi g A (gcM g zm om) r) args s 0 0 A) (F0 m 63 ls [])) (hr72 : ∀ (Tm : Gp) (x1 : Int32) (x2 : Int32) (x3 : Int32) (x4 : Int32) (x5 : Int32) (x6 : Int32) (H : Heap) (locs : List Loc) (ls : Array Slot), rec72 Tm x1 x2 x3 x4 x5 x6 = some (r, om) → wl g A s.heap (gcM g zm Tm) H locs → lv_has ls 10 [(0, .ref (zm 0)), (1, .int x1), (2, .int x2), (3, .int x3), (4, .int x4), (5, .int x5), (6, .int x6)] → W p l e (rmK 1 25) s m args below meth c H locs 0 0 (MQ below (Qi g A (gcM g zm om) r) args s 0 0 A) (F0 m 72 ls [])) : ∀ (n : Nat) (Tm : Gp) (x1 : Int32) (x2 : Int32) (x3 : Int32) (x4 : Int32) (x5 : Int32) (x6 : Int32) (x7 : Int32) (H : Heap) (locs : List Loc) (ls : Array Slot), lX11_news_90 rec63 rec72 n Tm x1 x2 x3 x4 x5 x6 x7 = some (r, om) → wl g A s.heap (gcM g zm Tm) H locs → lv_has ls 10 [(0, .ref (zm 0)), (1, .int x1), (2, .int x2), (3, .int x3), (4, .int x4), (5, .int x5), (6, .int x6), (7, .int x7)] → W p l e (rmK 1 25) s m args below meth c H locs 0 0 (MQ below (Qi g A (gcM g zm om) r) args s 0 0 A) (F0 m 90 ls []) := by
  intro n
  induction n with
  | zero => intro _ _ _ _ _ _ _ _ _ _ _ hf; exact no_f hf
  | succ n ih => intro _ _ _ _ _ _ _ _ _ _ _ hf hw hl; exact kX11_news_90 (zm := zm) (r := r) (om := om) C hr63 hr72 (rec90 := lX11_news_90 rec63 rec72 n) ih hf hw hl
set_option maxRecDepth 100000 in
set_option maxHeartbeats 4000000 in
theorem kX11_news_72 {l : Launch} {g : evG} {p : Program} {e : Env} {s : State} {m : MethodId} {args : Array Value} {below : List Frame} {meth : Method} {c : Code} {A : Nat → Prop} {zm : Nat → Nat} {r : Int32} {om : Gp} (C : ctx g p s m args meth c RX11 cX11_news 10 (some .int) A) {rec63 : Gp → Int32 → Int32 → Int32 → Int32 → Int32 → Option (Int32 × Gp)} {rec72 : Gp → Int32 → Int32 → Int32 → Int32 → Int32 → Int32 → Option (Int32 × Gp)} (hr63 : ∀ (Tm : Gp) (x1 : Int32) (x2 : Int32) (x3 : Int32) (x4 : Int32) (x5 : Int32) (H : Heap) (locs : List Loc) (ls : Array Slot), rec63 Tm x1 x2 x3 x4 x5 = some (r, om) → wl g A s.heap (gcM g zm Tm) H locs → lv_has ls 10 [(0, .ref (zm 0)), (1, .int x1), (2, .int x2), (3, .int x3), (4, .int x4), (5, .int x5)] → W p l e (rmK 1 25) s m args below meth c H locs 0 0 (MQ below (Qi g A (gcM g zm om) r) args s 0 0 A) (F0 m 63 ls [])) (hr72 : ∀ (Tm : Gp) (x1 : Int32) (x2 : Int32) (x3 : Int32) (x4 : Int32) (x5 : Int32) (x6 : Int32) (H : Heap) (locs : List Loc) (ls : Array Slot), rec72 Tm x1 x2 x3 x4 x5 x6 = some (r, om) → wl g A s.heap (gcM g zm Tm) H locs → lv_has ls 10 [(0, .ref (zm 0)), (1, .int x1), (2, .int x2), (3, .int x3), (4, .int x4), (5, .int x5), (6, .int x6)] → W p l e (rmK 1 25) s m args below meth c H locs 0 0 (MQ below (Qi g A (gcM g zm om) r) args s 0 0 A) (F0 m 72 ls [])) {Tm : Gp} {x1 : Int32} {x2 : Int32} {x3 : Int32} {x4 : Int32} {x5 : Int32} {x6 : Int32} {H : Heap} {locs : List Loc} {ls : Array Slot} (hf : fX11_news_72 rec63 rec72 Tm x1 x2 x3 x4 x5 x6 = some (r, om)) (hw : wl g A s.heap (gcM g zm Tm) H locs) (hl : lv_has ls 10 [(0, .ref (zm 0)), (1, .int x1), (2, .int x2), (3, .int x3), (4, .int x4), (5, .int x5), (6, .int x6)]) : W p l e (rmK 1 25) s m args below meth c H locs 0 0 (MQ below (Qi g A (gcM g zm om) r) args s 0 0 A) (F0 m 72 ls []) := by
  obtain ⟨hx, hb, hml, hown, hts, -⟩ := id C
  unfold fX11_news_72 at hf
  refine lv_iload hx hb dX11_news_72 (lv_at hl 6 rfl) ?_
  refine lv_iconst (v := (4 : Int32)) hx hb dX11_news_74 rfl ?_
  refine lv_icmp_ge (tgt := 211) hx hb dX11_news_75 (by decide) (fun hc2 => ?_) (fun hc2 => ?_)
  · have hf := it_p hf hc2
    refine lv_iconst (v := (0 : Int32)) hx hb dX11_news_211 rfl ?_
    refine lv_istore (lv' := [(6, .int (0 : Int32)), (0, .ref (zm 0)), (1, .int x1), (2, .int x2), (3, .int x3), (4, .int x4), (5, .int x5)]) hx hb dX11_news_212 hl (by decide) rfl (fun ls hl => ?_)
    exact klX11_news_214 (zm := zm) (r := r) (om := om) C hr63 fu _ _ _ _ _ _ _ _ _ _ hf hw (lv_sub hl [1, 2, 3, 4, 5, 6, 0] rfl)
  · have hf := it_n hf hc2
    refine lv_aload_n hx hb dX11_news_78 rfl (lv_at hl 0 rfl) ?_
    refine r_get C hw 0 rfl cf_X11 23 (by decide) q4_196 (v := .ref (zm 12)) rfl dX11_news_79 ?_
    refine lv_iload hx hb dX11_news_82 (lv_at hl 6 rfl) ?_
    refine lv_ldc (v := (268435456 : Int32)) hx hb hown (hts _ q5_216) dX11_news_84 ?_
    obtain ⟨hi1, hf⟩ := it_g hf
    refine r_iast C hw 12 (f := (Tm 12)) rfl hi1 (ws' := (gcM g zm (u2 Tm 12 x6.toNatClampNeg (268435456 : Int32)))) gcM_a12 dX11_news_86 (fun H locs hw => ?_)
    refine lv_iconst (v := (0 : Int32)) hx hb dX11_news_87 rfl ?_
    refine lv_istore (lv' := [(7, .int (0 : Int32)), (0, .ref (zm 0)), (1, .int x1), (2, .int x2), (3, .int x3), (4, .int x4), (5, .int x5), (6, .int x6)]) hx hb dX11_news_88 hl (by decide) rfl (fun ls hl => ?_)
    exact klX11_news_90 (zm := zm) (r := r) (om := om) C hr63 hr72 fu _ _ _ _ _ _ _ _ _ _ _ hf hw (lv_sub hl [1, 2, 3, 4, 5, 6, 7, 0] rfl)
set_option maxRecDepth 100000 in
set_option maxHeartbeats 4000000 in
theorem klX11_news_72 {l : Launch} {g : evG} {p : Program} {e : Env} {s : State} {m : MethodId} {args : Array Value} {below : List Frame} {meth : Method} {c : Code} {A : Nat → Prop} {zm : Nat → Nat} {r : Int32} {om : Gp} (C : ctx g p s m args meth c RX11 cX11_news 10 (some .int) A) {rec63 : Gp → Int32 → Int32 → Int32 → Int32 → Int32 → Option (Int32 × Gp)} (hr63 : ∀ (Tm : Gp) (x1 : Int32) (x2 : Int32) (x3 : Int32) (x4 : Int32) (x5 : Int32) (H : Heap) (locs : List Loc) (ls : Array Slot), rec63 Tm x1 x2 x3 x4 x5 = some (r, om) → wl g A s.heap (gcM g zm Tm) H locs → lv_has ls 10 [(0, .ref (zm 0)), (1, .int x1), (2, .int x2), (3, .int x3), (4, .int x4), (5, .int x5)] → W p l e (rmK 1 25) s m args below meth c H locs 0 0 (MQ below (Qi g A (gcM g zm om) r) args s 0 0 A) (F0 m 63 ls [])) : ∀ (n : Nat) (Tm : Gp) (x1 : Int32) (x2 : Int32) (x3 : Int32) (x4 : Int32) (x5 : Int32) (x6 : Int32) (H : Heap) (locs : List Loc) (ls : Array Slot), lX11_news_72 rec63 n Tm x1 x2 x3 x4 x5 x6 = some (r, om) → wl g A s.heap (gcM g zm Tm) H locs → lv_has ls 10 [(0, .ref (zm 0)), (1, .int x1), (2, .int x2), (3, .int x3), (4, .int x4), (5, .int x5), (6, .int x6)] → W p l e (rmK 1 25) s m args below meth c H locs 0 0 (MQ below (Qi g A (gcM g zm om) r) args s 0 0 A) (F0 m 72 ls []) := by
  intro n
  induction n with
  | zero => intro _ _ _ _ _ _ _ _ _ _ hf; exact no_f hf
  | succ n ih => intro _ _ _ _ _ _ _ _ _ _ hf hw hl; exact kX11_news_72 (zm := zm) (r := r) (om := om) C hr63 (rec72 := lX11_news_72 rec63 n) ih hf hw hl
set_option maxRecDepth 100000 in
set_option maxHeartbeats 4000000 in
theorem kX11_news_63 {l : Launch} {g : evG} {p : Program} {e : Env} {s : State} {m : MethodId} {args : Array Value} {below : List Frame} {meth : Method} {c : Code} {A : Nat → Prop} {zm : Nat → Nat} {r : Int32} {om : Gp} (C : ctx g p s m args meth c RX11 cX11_news 10 (some .int) A) {rec63 : Gp → Int32 → Int32 → Int32 → Int32 → Int32 → Option (Int32 × Gp)} (hr63 : ∀ (Tm : Gp) (x1 : Int32) (x2 : Int32) (x3 : Int32) (x4 : Int32) (x5 : Int32) (H : Heap) (locs : List Loc) (ls : Array Slot), rec63 Tm x1 x2 x3 x4 x5 = some (r, om) → wl g A s.heap (gcM g zm Tm) H locs → lv_has ls 10 [(0, .ref (zm 0)), (1, .int x1), (2, .int x2), (3, .int x3), (4, .int x4), (5, .int x5)] → W p l e (rmK 1 25) s m args below meth c H locs 0 0 (MQ below (Qi g A (gcM g zm om) r) args s 0 0 A) (F0 m 63 ls [])) {Tm : Gp} {x1 : Int32} {x2 : Int32} {x3 : Int32} {x4 : Int32} {x5 : Int32} {H : Heap} {locs : List Loc} {ls : Array Slot} (hf : fX11_news_63 rec63 Tm x1 x2 x3 x4 x5 = some (r, om)) (hw : wl g A s.heap (gcM g zm Tm) H locs) (hl : lv_has ls 10 [(0, .ref (zm 0)), (1, .int x1), (2, .int x2), (3, .int x3), (4, .int x4), (5, .int x5)]) : W p l e (rmK 1 25) s m args below meth c H locs 0 0 (MQ below (Qi g A (gcM g zm om) r) args s 0 0 A) (F0 m 63 ls []) := by
  obtain ⟨hx, hb, hml, hown, hts, -⟩ := id C
  unfold fX11_news_63 at hf
  refine lv_iload hx hb dX11_news_63 (lv_at hl 5 rfl) ?_
  refine lv_iload_n hx hb dX11_news_65 rfl (lv_at hl 2 rfl) ?_
  refine lv_icmp_ge (tgt := 246) hx hb dX11_news_66 (by decide) (fun hc1 => ?_) (fun hc1 => ?_)
  · have hf := it_p hf hc1
    refine lv_ldc (v := (268435456 : Int32)) hx hb hown (hts _ q5_216) dX11_news_246 ?_
    refine lv_istore (lv' := [(5, .int (268435456 : Int32)), (0, .ref (zm 0)), (1, .int x1), (2, .int x2), (3, .int x3), (4, .int x4)]) hx hb dX11_news_248 hl (by decide) rfl (fun ls hl => ?_)
    refine lv_iconst (v := (0 : Int32)) hx hb dX11_news_250 rfl ?_
    refine lv_istore (lv' := [(6, .int (0 : Int32)), (5, .int (268435456 : Int32)), (0, .ref (zm 0)), (1, .int x1), (2, .int x2), (3, .int x3), (4, .int x4)]) hx hb dX11_news_251 hl (by decide) rfl (fun ls hl => ?_)
    exact klX11_news_253 (zm := zm) (r := r) (om := om) C fu _ _ _ _ _ _ hf hw (lv_sub hl [2, 1, 0] rfl)
  · have hf := it_n hf hc1
    refine lv_iconst (v := (0 : Int32)) hx hb dX11_news_69 rfl ?_
    refine lv_istore (lv' := [(6, .int (0 : Int32)), (0, .ref (zm 0)), (1, .int x1), (2, .int x2), (3, .int x3), (4, .int x4), (5, .int x5)]) hx hb dX11_news_70 hl (by decide) rfl (fun ls hl => ?_)
    exact klX11_news_72 (zm := zm) (r := r) (om := om) C hr63 fu _ _ _ _ _ _ _ _ _ _ hf hw (lv_sub hl [1, 2, 3, 4, 5, 6, 0] rfl)
set_option maxRecDepth 100000 in
set_option maxHeartbeats 4000000 in
theorem klX11_news_63 {l : Launch} {g : evG} {p : Program} {e : Env} {s : State} {m : MethodId} {args : Array Value} {below : List Frame} {meth : Method} {c : Code} {A : Nat → Prop} {zm : Nat → Nat} {r : Int32} {om : Gp} (C : ctx g p s m args meth c RX11 cX11_news 10 (some .int) A) : ∀ (n : Nat) (Tm : Gp) (x1 : Int32) (x2 : Int32) (x3 : Int32) (x4 : Int32) (x5 : Int32) (H : Heap) (locs : List Loc) (ls : Array Slot), lX11_news_63 n Tm x1 x2 x3 x4 x5 = some (r, om) → wl g A s.heap (gcM g zm Tm) H locs → lv_has ls 10 [(0, .ref (zm 0)), (1, .int x1), (2, .int x2), (3, .int x3), (4, .int x4), (5, .int x5)] → W p l e (rmK 1 25) s m args below meth c H locs 0 0 (MQ below (Qi g A (gcM g zm om) r) args s 0 0 A) (F0 m 63 ls []) := by
  intro n
  induction n with
  | zero => intro _ _ _ _ _ _ _ _ _ hf; exact no_f hf
  | succ n ih => intro _ _ _ _ _ _ _ _ _ hf hw hl; exact kX11_news_63 (zm := zm) (r := r) (om := om) C (rec63 := lX11_news_63 n) ih hf hw hl
set_option maxRecDepth 100000 in
set_option maxHeartbeats 4000000 in
theorem kX11_news_30 {l : Launch} {g : evG} {p : Program} {e : Env} {s : State} {m : MethodId} {args : Array Value} {below : List Frame} {meth : Method} {c : Code} {A : Nat → Prop} {zm : Nat → Nat} {r : Int32} {om : Gp} (C : ctx g p s m args meth c RX11 cX11_news 10 (some .int) A) {rec30 : Gp → Int32 → Int32 → Int32 → Int32 → Int32 → Option (Int32 × Gp)} (hr30 : ∀ (Tm : Gp) (x1 : Int32) (x2 : Int32) (x3 : Int32) (x4 : Int32) (x5 : Int32) (H : Heap) (locs : List Loc) (ls : Array Slot), rec30 Tm x1 x2 x3 x4 x5 = some (r, om) → wl g A s.heap (gcM g zm Tm) H locs → lv_has ls 10 [(0, .ref (zm 0)), (1, .int x1), (2, .int x2), (3, .int x3), (4, .int x4), (5, .int x5)] → W p l e (rmK 1 25) s m args below meth c H locs 0 0 (MQ below (Qi g A (gcM g zm om) r) args s 0 0 A) (F0 m 30 ls [])) {Tm : Gp} {x1 : Int32} {x2 : Int32} {x3 : Int32} {x4 : Int32} {x5 : Int32} {H : Heap} {locs : List Loc} {ls : Array Slot} (hf : fX11_news_30 rec30 Tm x1 x2 x3 x4 x5 = some (r, om)) (hw : wl g A s.heap (gcM g zm Tm) H locs) (hl : lv_has ls 10 [(0, .ref (zm 0)), (1, .int x1), (2, .int x2), (3, .int x3), (4, .int x4), (5, .int x5)]) : W p l e (rmK 1 25) s m args below meth c H locs 0 0 (MQ below (Qi g A (gcM g zm om) r) args s 0 0 A) (F0 m 30 ls []) := by
  obtain ⟨hx, hb, hml, hown, hts, -⟩ := id C
  unfold fX11_news_30 at hf
  refine lv_iload hx hb dX11_news_30 (lv_at hl 5 rfl) ?_
  refine lv_iconst (v := (4 : Int32)) hx hb dX11_news_32 rfl ?_
  refine lv_icmp_ge (tgt := 60) hx hb dX11_news_33 (by decide) (fun hc4 => ?_) (fun hc4 => ?_)
  · have hf := it_p hf hc4
    refine lv_iconst (v := (0 : Int32)) hx hb dX11_news_60 rfl ?_
    refine lv_istore (lv' := [(5, .int (0 : Int32)), (0, .ref (zm 0)), (1, .int x1), (2, .int x2), (3, .int x3), (4, .int x4)]) hx hb dX11_news_61 hl (by decide) rfl (fun ls hl => ?_)
    exact klX11_news_63 (zm := zm) (r := r) (om := om) C fu _ _ _ _ _ _ _ _ _ hf hw (lv_sub hl [1, 2, 3, 4, 5, 0] rfl)
  · have hf := it_n hf hc4
    refine lv_aload_n hx hb dX11_news_36 rfl (lv_at hl 0 rfl) ?_
    refine r_get C hw 0 rfl cf_X11 22 (by decide) q4_195 (v := .ref (zm 11)) rfl dX11_news_37 ?_
    refine lv_iload hx hb dX11_news_40 (lv_at hl 5 rfl) ?_
    refine lv_iload hx hb dX11_news_42 (lv_at hl 5 rfl) ?_
    refine lv_if_ne (tgt := 51) hx hb dX11_news_44 (by decide) (fun hc3 => ?_) (fun hc3 => ?_)
    · have hf := it_n hf hc3
      refine lv_ldc (v := (268435456 : Int32)) hx hb hown (hts _ q5_216) dX11_news_51 ?_
      obtain ⟨hi1, hf⟩ := it_g hf
      refine r_iast C hw 11 (f := (Tm 11)) rfl hi1 (ws' := (gcM g zm (u2 Tm 11 x5.toNatClampNeg (268435456 : Int32)))) gcM_a11 dX11_news_53 (fun H locs hw => ?_)
      refine lv_iinc (v := (x5 + (1 : Int32))) (lv' := [(5, .int (x5 + (1 : Int32))), (0, .ref (zm 0)), (1, .int x1), (2, .int x2), (3, .int x3), (4, .int x4)]) hx hb dX11_news_54 hl (k := 5) rfl rfl (by decide) rfl (fun ls hl => ?_)
      refine lv_goto (tgt := 30) hx hb dX11_news_57 (by decide) ?_
      exact hr30 _ _ _ _ _ _ _ _ _ hf hw (lv_sub hl [1, 2, 3, 4, 5, 0] rfl)
    · have hf := it_p hf hc3
      refine lv_iconst (v := (0 : Int32)) hx hb dX11_news_47 rfl ?_
      refine lv_goto (tgt := 53) hx hb dX11_news_48 (by decide) ?_
      obtain ⟨hi2, hf⟩ := it_g hf
      refine r_iast C hw 11 (f := (Tm 11)) rfl hi2 (ws' := (gcM g zm (u2 Tm 11 x5.toNatClampNeg (0 : Int32)))) gcM_a11 dX11_news_53 (fun H locs hw => ?_)
      refine lv_iinc (v := (x5 + (1 : Int32))) (lv' := [(5, .int (x5 + (1 : Int32))), (0, .ref (zm 0)), (1, .int x1), (2, .int x2), (3, .int x3), (4, .int x4)]) hx hb dX11_news_54 hl (k := 5) rfl rfl (by decide) rfl (fun ls hl => ?_)
      refine lv_goto (tgt := 30) hx hb dX11_news_57 (by decide) ?_
      exact hr30 _ _ _ _ _ _ _ _ _ hf hw (lv_sub hl [1, 2, 3, 4, 5, 0] rfl)
set_option maxRecDepth 100000 in
set_option maxHeartbeats 4000000 in
theorem klX11_news_30 {l : Launch} {g : evG} {p : Program} {e : Env} {s : State} {m : MethodId} {args : Array Value} {below : List Frame} {meth : Method} {c : Code} {A : Nat → Prop} {zm : Nat → Nat} {r : Int32} {om : Gp} (C : ctx g p s m args meth c RX11 cX11_news 10 (some .int) A) : ∀ (n : Nat) (Tm : Gp) (x1 : Int32) (x2 : Int32) (x3 : Int32) (x4 : Int32) (x5 : Int32) (H : Heap) (locs : List Loc) (ls : Array Slot), lX11_news_30 n Tm x1 x2 x3 x4 x5 = some (r, om) → wl g A s.heap (gcM g zm Tm) H locs → lv_has ls 10 [(0, .ref (zm 0)), (1, .int x1), (2, .int x2), (3, .int x3), (4, .int x4), (5, .int x5)] → W p l e (rmK 1 25) s m args below meth c H locs 0 0 (MQ below (Qi g A (gcM g zm om) r) args s 0 0 A) (F0 m 30 ls []) := by
  intro n
  induction n with
  | zero => intro _ _ _ _ _ _ _ _ _ hf; exact no_f hf
  | succ n ih => intro _ _ _ _ _ _ _ _ _ hf hw hl; exact kX11_news_30 (zm := zm) (r := r) (om := om) C (rec30 := lX11_news_30 n) ih hf hw hl
set_option maxRecDepth 100000 in
set_option maxHeartbeats 4000000 in
theorem c_X11_news {l : Launch} {g : evG} {zm : Nat → Nat} {r : Int32} {om : Gp}  {Tm : Gp} {x1 : Int32} {x2 : Int32} {x3 : Int32} {x4 : Int32} (hf : fX11_news Tm x1 x2 x3 x4 = some (r, om)) : CTi l g yX11_news (Cond.code yX11_news cX11_news 10 (some .int)) 1 25 [.ref (zm 0), .int x1, .int x2, .int x3, .int x4] (gcM g zm Tm) (gcM g zm om) r := by
  refine ct_i rfl (Nat.le_of_ble_eq_true rfl) ?_
  intro p e s m args below meth c A ls C hw hl
  have C : ctx g p s m args meth c RX11 cX11_news 10 (some .int) A := C
  have hl : lv_has ls 10 [(0, .ref (zm 0)), (1, .int x1), (2, .int x2), (3, .int x3), (4, .int x4)] := hl
  obtain ⟨hx, hb, hml, hown, hts, -⟩ := id C
  unfold fX11_news at hf
  refine lv_iload_n hx hb dX11_news_0 rfl (lv_at hl 2 rfl) ?_
  refine lv_i2l hx hb dX11_news_1 rfl ?_
  refine lv_lconst (v := (1 : Int64)) hx hb dX11_news_2 rfl ?_
  refine lv_ldc2 (v := (12 : Int64)) hx hb hown (hts _ q5_214) dX11_news_3 ?_
  obtain ⟨r1, hc2, hf⟩ := bd1_e hf
  refine r_callSi0 C hw (c_X11_in hc2) md_X11_in [] rfl rfl q5_32 ⟨Nat.le_of_ble_eq_true rfl, Nat.le_of_ble_eq_true rfl⟩ ⟨Nat.zero_le _, Nat.zero_le _⟩ hl.1 rfl rfl (Nat.le_of_ble_eq_true rfl) dX11_news_6 (fun H locs hw => ?_)
  refine lv_if_eq (tgt := 24) hx hb dX11_news_9 (by decide) (fun hc6 => ?_) (fun hc6 => ?_)
  · have hf := it_p hf hc6
    refine lv_bipush (v := (-3 : Int32)) hx hb dX11_news_24 rfl ?_
    obtain ⟨rfl, rfl⟩ := so2 hf
    exact r_iret C hw rfl dX11_news_26
  · have hf := it_n hf hc6
    refine lv_iload_n hx hb dX11_news_12 rfl (lv_at hl 3 rfl) ?_
    refine lv_i2l hx hb dX11_news_13 rfl ?_
    refine lv_lconst (v := (0 : Int64)) hx hb dX11_news_14 rfl ?_
    refine lv_ldc2 (v := (9 : Int64)) hx hb hown (hts _ q5_215) dX11_news_15 ?_
    obtain ⟨r3, hc4, hf⟩ := bd1_e hf
    refine r_callSi0 C hw (c_X11_in hc4) md_X11_in [] rfl rfl q5_32 ⟨Nat.le_of_ble_eq_true rfl, Nat.le_of_ble_eq_true rfl⟩ ⟨Nat.zero_le _, Nat.zero_le _⟩ hl.1 rfl rfl (Nat.le_of_ble_eq_true rfl) dX11_news_18 (fun H locs hw => ?_)
    refine lv_if_ne (tgt := 27) hx hb dX11_news_21 (by decide) (fun hc5 => ?_) (fun hc5 => ?_)
    · have hf := it_n hf hc5
      refine lv_iconst (v := (0 : Int32)) hx hb dX11_news_27 rfl ?_
      refine lv_istore (lv' := [(5, .int (0 : Int32)), (0, .ref (zm 0)), (1, .int x1), (2, .int x2), (3, .int x3), (4, .int x4)]) hx hb dX11_news_28 hl (by decide) rfl (fun ls hl => ?_)
      exact klX11_news_30 (zm := zm) (r := r) (om := om) C fu _ _ _ _ _ _ _ _ _ hf hw (lv_sub hl [1, 2, 3, 4, 5, 0] rfl)
    · have hf := it_p hf hc5
      refine lv_bipush (v := (-3 : Int32)) hx hb dX11_news_24 rfl ?_
      obtain ⟨rfl, rfl⟩ := so2 hf
      exact r_iret C hw rfl dX11_news_26
set_option maxRecDepth 100000 in
set_option maxHeartbeats 4000000 in
theorem c_X11_harm {l : Launch} {g : evG} {zm : Nat → Nat} {r : Int32} {om : Gp}  {Tm : Gp} {x1 : Int32} {x2 : Int32} {x3 : Int32} (hf : fX11_harm Tm x1 x2 x3 = some (r, om)) : CTi l g yX11_harm (Cond.code yX11_harm cX11_harm 5 (some .int)) 2 46 [.ref (zm 0), .int x1, .int x2, .int x3] (gcM g zm Tm) (gcM g zm om) r := by
  refine ct_i rfl (Nat.le_of_ble_eq_true rfl) ?_
  intro p e s m args below meth c A ls C hw hl
  have C : ctx g p s m args meth c RX11 cX11_harm 5 (some .int) A := C
  have hl : lv_has ls 5 [(0, .ref (zm 0)), (1, .int x1), (2, .int x2), (3, .int x3)] := hl
  obtain ⟨hx, hb, hml, hown, hts, -⟩ := id C
  unfold fX11_harm at hf
  refine lv_aload_n hx hb dX11_harm_0 rfl (lv_at hl 0 rfl) ?_
  refine lv_iload_n hx hb dX11_harm_1 rfl (lv_at hl 1 rfl) ?_
  obtain ⟨r1, hc2, hf⟩ := bd1_e hf
  refine r_callVi0 C hw (c_X11_isPair (zm := zm) hc2) md_X11_isPair [0, 1, 2, 3, 4, 5, 6, 7, 8, 9, 10, 11, 12, 13, 14, 15, 16, 17, 18] rfl rfl q5_110 0 rfl cf_X11.1 ⟨Nat.le_of_ble_eq_true rfl, Nat.le_of_ble_eq_true rfl⟩ ⟨Nat.zero_le _, Nat.zero_le _⟩ hl.1 rfl rfl (Nat.le_of_ble_eq_true rfl) dX11_harm_2 (fun H locs hw => ?_)
  refine lv_if_eq (tgt := 16) hx hb dX11_harm_5 (by decide) (fun hc11 => ?_) (fun hc11 => ?_)
  · have hf := it_p hf hc11
    refine lv_bipush (v := (-2 : Int32)) hx hb dX11_harm_16 rfl ?_
    obtain ⟨rfl, rfl⟩ := so2 hf
    exact r_iret C hw rfl dX11_harm_18
  · have hf := it_n hf hc11
    refine lv_aload_n hx hb dX11_harm_8 rfl (lv_at hl 0 rfl) ?_
    refine lv_iload_n hx hb dX11_harm_9 rfl (lv_at hl 2 rfl) ?_
    obtain ⟨r3, hc4, hf⟩ := bd1_e hf
    refine r_callVi0 C hw (c_X11_isPair (zm := zm) hc4) md_X11_isPair [0, 1, 2, 3, 4, 5, 6, 7, 8, 9, 10, 11, 12, 13, 14, 15, 16, 17, 18] rfl rfl q5_110 0 rfl cf_X11.1 ⟨Nat.le_of_ble_eq_true rfl, Nat.le_of_ble_eq_true rfl⟩ ⟨Nat.zero_le _, Nat.zero_le _⟩ hl.1 rfl rfl (Nat.le_of_ble_eq_true rfl) dX11_harm_10 (fun H locs hw => ?_)
    refine lv_if_ne (tgt := 19) hx hb dX11_harm_13 (by decide) (fun hc10 => ?_) (fun hc10 => ?_)
    · have hf := it_n hf hc10
      refine lv_iload_n hx hb dX11_harm_19 rfl (lv_at hl 3 rfl) ?_
      refine lv_i2l hx hb dX11_harm_20 rfl ?_
      refine lv_lconst (v := (0 : Int64)) hx hb dX11_harm_21 rfl ?_
      refine lv_ldc2 (v := (99 : Int64)) hx hb hown (hts _ q5_130) dX11_harm_22 ?_
      obtain ⟨r5, hc6, hf⟩ := bd1_e hf
      refine r_callSi0 C hw (c_X11_in hc6) md_X11_in [] rfl rfl q5_32 ⟨Nat.le_of_ble_eq_true rfl, Nat.le_of_ble_eq_true rfl⟩ ⟨Nat.zero_le _, Nat.zero_le _⟩ hl.1 rfl rfl (Nat.le_of_ble_eq_true rfl) dX11_harm_25 (fun H locs hw => ?_)
      refine lv_if_ne (tgt := 34) hx hb dX11_harm_28 (by decide) (fun hc9 => ?_) (fun hc9 => ?_)
      · have hf := it_n hf hc9
        refine lv_aload_n hx hb dX11_harm_34 rfl (lv_at hl 0 rfl) ?_
        refine r_get C hw 0 rfl cf_X11 24 (by decide) q4_197 (v := .ref (zm 13)) rfl dX11_harm_35 ?_
        refine lv_bipush (v := (6 : Int32)) hx hb dX11_harm_38 rfl ?_
        refine lv_iload_n hx hb dX11_harm_40 rfl (lv_at hl 1 rfl) ?_
        refine lv_imul hx hb dX11_harm_41 ?_
        refine lv_iload_n hx hb dX11_harm_42 rfl (lv_at hl 2 rfl) ?_
        refine lv_iadd hx hb dX11_harm_43 ?_
        obtain ⟨hi7, hf⟩ := it_g hf
        refine r_iald C hw 13 (f := (Tm 13)) rfl hi7 dX11_harm_44 ?_
        refine lv_istore (lv' := [(4, .int (Tm 13 (((6 : Int32) * x1) + x2).toNatClampNeg)), (0, .ref (zm 0)), (1, .int x1), (2, .int x2), (3, .int x3)]) hx hb dX11_harm_45 hl (by decide) rfl (fun ls hl => ?_)
        refine lv_aload_n hx hb dX11_harm_47 rfl (lv_at hl 1 rfl) ?_
        refine r_get C hw 0 rfl cf_X11 24 (by decide) q4_197 (v := .ref (zm 13)) rfl dX11_harm_48 ?_
        refine lv_bipush (v := (6 : Int32)) hx hb dX11_harm_51 rfl ?_
        refine lv_iload_n hx hb dX11_harm_53 rfl (lv_at hl 2 rfl) ?_
        refine lv_imul hx hb dX11_harm_54 ?_
        refine lv_iload_n hx hb dX11_harm_55 rfl (lv_at hl 3 rfl) ?_
        refine lv_iadd hx hb dX11_harm_56 ?_
        refine lv_iload_n hx hb dX11_harm_57 rfl (lv_at hl 4 rfl) ?_
        obtain ⟨hi8, hf⟩ := it_g hf
        refine r_iast C hw 13 (f := (Tm 13)) rfl hi8 (ws' := (gcM g zm (u2 Tm 13 (((6 : Int32) * x1) + x2).toNatClampNeg x3))) gcM_a13 dX11_harm_58 (fun H locs hw => ?_)
        refine lv_iload hx hb dX11_harm_59 (lv_at hl 0 rfl) ?_
        obtain ⟨rfl, rfl⟩ := so2 hf
        exact r_iret C hw rfl dX11_harm_61
      · have hf := it_p hf hc9
        refine lv_bipush (v := (-3 : Int32)) hx hb dX11_harm_31 rfl ?_
        obtain ⟨rfl, rfl⟩ := so2 hf
        exact r_iret C hw rfl dX11_harm_33
    · have hf := it_p hf hc10
      refine lv_bipush (v := (-2 : Int32)) hx hb dX11_harm_16 rfl ?_
      obtain ⟨rfl, rfl⟩ := so2 hf
      exact r_iret C hw rfl dX11_harm_18
set_option maxRecDepth 100000 in
set_option maxHeartbeats 4000000 in
theorem kX11_bits_4 {l : Launch} {g : evG} {p : Program} {e : Env} {s : State} {m : MethodId} {args : Array Value} {below : List Frame} {meth : Method} {c : Code} {A : Nat → Prop}  {r : Int32} (C : ctx g p s m args meth c RX11 cX11_bits 3 (some .int) A) {rec4 : Int32 → Int32 → Int32 → Option (Int32)} (hr4 : ∀ (x0 : Int32) (x1 : Int32) (x2 : Int32) (H : Heap) (locs : List Loc) (ls : Array Slot), rec4 x0 x1 x2 = some (r) → wl g A s.heap ([] : va_W) H locs → lv_has ls 3 [(0, .int x0), (1, .int x1), (2, .int x2)] → W p l e (rmK 0 0) s m args below meth c H locs 0 0 (MQ below (Qi g A ([] : va_W) r) args s 0 0 A) (F0 m 4 ls [])) {x0 : Int32} {x1 : Int32} {x2 : Int32} {H : Heap} {locs : List Loc} {ls : Array Slot} (hf : fX11_bits_4 rec4 x0 x1 x2 = some (r)) (hw : wl g A s.heap ([] : va_W) H locs) (hl : lv_has ls 3 [(0, .int x0), (1, .int x1), (2, .int x2)]) : W p l e (rmK 0 0) s m args below meth c H locs 0 0 (MQ below (Qi g A ([] : va_W) r) args s 0 0 A) (F0 m 4 ls []) := by
  obtain ⟨hx, hb, hml, hown, hts, -⟩ := id C
  unfold fX11_bits_4 at hf
  refine lv_iload_n hx hb dX11_bits_4 rfl (lv_at hl 2 rfl) ?_
  refine lv_bipush (v := (6 : Int32)) hx hb dX11_bits_5 rfl ?_
  refine lv_icmp_ge (tgt := 24) hx hb dX11_bits_7 (by decide) (fun hc1 => ?_) (fun hc1 => ?_)
  · have hf := it_p hf hc1
    refine lv_iload_n hx hb dX11_bits_24 rfl (lv_at hl 1 rfl) ?_
    obtain rfl := so1 hf
    exact r_iret C hw rfl dX11_bits_25
  · have hf := it_n hf hc1
    refine lv_iload_n hx hb dX11_bits_10 rfl (lv_at hl 1 rfl) ?_
    refine lv_iload_n hx hb dX11_bits_11 rfl (lv_at hl 0 rfl) ?_
    refine lv_iload_n hx hb dX11_bits_12 rfl (lv_at hl 2 rfl) ?_
    refine lv_ishr hx hb dX11_bits_13 ?_
    refine lv_iconst (v := (1 : Int32)) hx hb dX11_bits_14 rfl ?_
    refine lv_iand hx hb dX11_bits_15 ?_
    refine lv_iadd hx hb dX11_bits_16 ?_
    refine lv_istore_n (lv' := [(1, .int (x1 + ((x0 >>> (x2 &&& 31)) &&& (1 : Int32)))), (0, .int x0), (2, .int x2)]) hx hb dX11_bits_17 rfl hl (by decide) rfl (fun ls hl => ?_)
    refine lv_iinc (v := (x2 + (1 : Int32))) (lv' := [(2, .int (x2 + (1 : Int32))), (1, .int (x1 + ((x0 >>> (x2 &&& 31)) &&& (1 : Int32)))), (0, .int x0)]) hx hb dX11_bits_18 hl (k := 2) rfl rfl (by decide) rfl (fun ls hl => ?_)
    refine lv_goto (tgt := 4) hx hb dX11_bits_21 (by decide) ?_
    exact hr4 _ _ _ _ _ _ hf hw (lv_sub hl [2, 1, 0] rfl)
set_option maxRecDepth 100000 in
set_option maxHeartbeats 4000000 in
theorem klX11_bits_4 {l : Launch} {g : evG} {p : Program} {e : Env} {s : State} {m : MethodId} {args : Array Value} {below : List Frame} {meth : Method} {c : Code} {A : Nat → Prop}  {r : Int32} (C : ctx g p s m args meth c RX11 cX11_bits 3 (some .int) A) : ∀ (n : Nat) (x0 : Int32) (x1 : Int32) (x2 : Int32) (H : Heap) (locs : List Loc) (ls : Array Slot), lX11_bits_4 n x0 x1 x2 = some (r) → wl g A s.heap ([] : va_W) H locs → lv_has ls 3 [(0, .int x0), (1, .int x1), (2, .int x2)] → W p l e (rmK 0 0) s m args below meth c H locs 0 0 (MQ below (Qi g A ([] : va_W) r) args s 0 0 A) (F0 m 4 ls []) := by
  intro n
  induction n with
  | zero => intro _ _ _ _ _ _ hf; exact no_f hf
  | succ n ih => intro _ _ _ _ _ _ hf hw hl; exact kX11_bits_4 (r := r) C (rec4 := lX11_bits_4 n) ih hf hw hl
set_option maxRecDepth 100000 in
set_option maxHeartbeats 4000000 in
theorem c_X11_bits {l : Launch} {g : evG}  {r : Int32}  {x0 : Int32} (hf : fX11_bits x0 = some (r)) : CTi l g yX11_bits (Cond.code yX11_bits cX11_bits 3 (some .int)) 0 0 [.int x0] ([] : va_W) ([] : va_W) r := by
  refine ct_i rfl (Nat.le_of_ble_eq_true rfl) ?_
  intro p e s m args below meth c A ls C hw hl
  have C : ctx g p s m args meth c RX11 cX11_bits 3 (some .int) A := C
  have hl : lv_has ls 3 [(0, .int x0)] := hl
  obtain ⟨hx, hb, hml, hown, hts, -⟩ := id C
  unfold fX11_bits at hf
  refine lv_iconst (v := (0 : Int32)) hx hb dX11_bits_0 rfl ?_
  refine lv_istore_n (lv' := [(1, .int (0 : Int32)), (0, .int x0)]) hx hb dX11_bits_1 rfl hl (by decide) rfl (fun ls hl => ?_)
  refine lv_iconst (v := (0 : Int32)) hx hb dX11_bits_2 rfl ?_
  refine lv_istore_n (lv' := [(2, .int (0 : Int32)), (1, .int (0 : Int32)), (0, .int x0)]) hx hb dX11_bits_3 rfl hl (by decide) rfl (fun ls hl => ?_)
  exact klX11_bits_4 (r := r) C fu _ _ _ _ _ _ hf hw (lv_sub hl [2, 1, 0] rfl)
set_option maxRecDepth 100000 in
set_option maxHeartbeats 4000000 in
theorem kX11_harmBy_49 {l : Launch} {g : evG} {p : Program} {e : Env} {s : State} {m : MethodId} {args : Array Value} {below : List Frame} {meth : Method} {c : Code} {A : Nat → Prop} {zm : Nat → Nat} {r : Int32} (C : ctx g p s m args meth c RX11 cX11_harmBy 7 (some .int) A) {Tm : Gp} {x1 : Int32} {x2 : Int32} {x5 : Int32} {y0 : Int32} {H : Heap} {locs : List Loc} {ls : Array Slot} (hf : fX11_harmBy_49 Tm x1 x2 x5 y0 = some (r)) (hw : wl g A s.heap (gcM g zm Tm) H locs) (hl : lv_has ls 7 [(0, .ref (zm 0)), (1, .int x1), (2, .int x2), (5, .int x5)]) : W p l e (rmK 1 22) s m args below meth c H locs 0 0 (MQ below (Qi g A (gcM g zm Tm) r) args s 0 0 A) (F0 m 49 ls [.int y0]) := by
  obtain ⟨hx, hb, hml, hown, hts, -⟩ := id C
  unfold fX11_harmBy_49 at hf
  refine lv_istore (lv' := [(6, .int y0), (0, .ref (zm 0)), (1, .int x1), (2, .int x2), (5, .int x5)]) hx hb dX11_harmBy_49 hl (by decide) rfl (fun ls hl => ?_)
  refine lv_iload hx hb dX11_harmBy_51 (lv_at hl 0 rfl) ?_
  refine lv_if_eq (tgt := 82) hx hb dX11_harmBy_53 (by decide) (fun hc3 => ?_) (fun hc3 => ?_)
  · have hf := it_p hf hc3
    refine lv_ldc (v := (268435456 : Int32)) hx hb hown (hts _ q5_216) dX11_harmBy_82 ?_
    obtain rfl := so1 hf
    exact r_iret C hw rfl dX11_harmBy_84
  · have hf := it_n hf hc3
    refine lv_aload_n hx hb dX11_harmBy_56 rfl (lv_at hl 1 rfl) ?_
    refine r_get C hw 0 rfl cf_X11 24 (by decide) q4_197 (v := .ref (zm 13)) rfl dX11_harmBy_57 ?_
    refine lv_bipush (v := (6 : Int32)) hx hb dX11_harmBy_60 rfl ?_
    refine lv_iload hx hb dX11_harmBy_62 (lv_at hl 4 rfl) ?_
    refine lv_imul hx hb dX11_harmBy_64 ?_
    refine lv_iload_n hx hb dX11_harmBy_65 rfl (lv_at hl 3 rfl) ?_
    refine lv_iadd hx hb dX11_harmBy_66 ?_
    obtain ⟨hi1, hf⟩ := it_g hf
    refine r_iald C hw 13 (f := (Tm 13)) rfl hi1 dX11_harmBy_67 ?_
    refine lv_aload_n hx hb dX11_harmBy_68 rfl (lv_at hl 1 rfl) ?_
    refine r_get C hw 0 rfl cf_X11 25 (by decide) q4_198 (v := .ref (zm 14)) rfl dX11_harmBy_69 ?_
    refine lv_iload_n hx hb dX11_harmBy_72 rfl (lv_at hl 2 rfl) ?_
    refine lv_iconst (v := (1 : Int32)) hx hb dX11_harmBy_73 rfl ?_
    refine lv_iload_n hx hb dX11_harmBy_74 rfl (lv_at hl 3 rfl) ?_
    refine lv_ishl hx hb dX11_harmBy_75 ?_
    refine lv_ior hx hb dX11_harmBy_76 ?_
    obtain ⟨hi2, hf⟩ := it_g hf
    refine r_iald C hw 14 (f := (Tm 14)) rfl hi2 dX11_harmBy_77 ?_
    refine lv_iadd hx hb dX11_harmBy_78 ?_
    refine lv_goto (tgt := 84) hx hb dX11_harmBy_79 (by decide) ?_
    obtain rfl := so1 hf
    exact r_iret C hw rfl dX11_harmBy_84
set_option maxRecDepth 100000 in
set_option maxHeartbeats 4000000 in
theorem kX11_harmBy_48 {l : Launch} {g : evG} {p : Program} {e : Env} {s : State} {m : MethodId} {args : Array Value} {below : List Frame} {meth : Method} {c : Code} {A : Nat → Prop} {zm : Nat → Nat} {r : Int32} (C : ctx g p s m args meth c RX11 cX11_harmBy 7 (some .int) A) {Tm : Gp} {x1 : Int32} {x2 : Int32} {x5 : Int32} {H : Heap} {locs : List Loc} {ls : Array Slot} (hf : fX11_harmBy_48 Tm x1 x2 x5 = some (r)) (hw : wl g A s.heap (gcM g zm Tm) H locs) (hl : lv_has ls 7 [(0, .ref (zm 0)), (1, .int x1), (2, .int x2), (5, .int x5)]) : W p l e (rmK 1 22) s m args below meth c H locs 0 0 (MQ below (Qi g A (gcM g zm Tm) r) args s 0 0 A) (F0 m 48 ls []) := by
  obtain ⟨hx, hb, hml, hown, hts, -⟩ := id C
  unfold fX11_harmBy_48 at hf
  refine lv_iconst (v := (0 : Int32)) hx hb dX11_harmBy_48 rfl ?_
  exact kX11_harmBy_49 (zm := zm) (r := r) C hf hw (lv_sub hl [0, 1, 2, 3] rfl)
set_option maxRecDepth 100000 in
set_option maxHeartbeats 4000000 in
theorem kX11_harmBy_44 {l : Launch} {g : evG} {p : Program} {e : Env} {s : State} {m : MethodId} {args : Array Value} {below : List Frame} {meth : Method} {c : Code} {A : Nat → Prop} {zm : Nat → Nat} {r : Int32} (C : ctx g p s m args meth c RX11 cX11_harmBy 7 (some .int) A) {Tm : Gp} {x1 : Int32} {x2 : Int32} {x5 : Int32} {H : Heap} {locs : List Loc} {ls : Array Slot} (hf : fX11_harmBy_44 Tm x1 x2 x5 = some (r)) (hw : wl g A s.heap (gcM g zm Tm) H locs) (hl : lv_has ls 7 [(0, .ref (zm 0)), (1, .int x1), (2, .int x2), (5, .int x5)]) : W p l e (rmK 1 22) s m args below meth c H locs 0 0 (MQ below (Qi g A (gcM g zm Tm) r) args s 0 0 A) (F0 m 44 ls []) := by
  obtain ⟨hx, hb, hml, hown, hts, -⟩ := id C
  unfold fX11_harmBy_44 at hf
  refine lv_iconst (v := (1 : Int32)) hx hb dX11_harmBy_44 rfl ?_
  refine lv_goto (tgt := 49) hx hb dX11_harmBy_45 (by decide) ?_
  exact kX11_harmBy_49 (zm := zm) (r := r) C hf hw (lv_sub hl [0, 1, 2, 3] rfl)
set_option maxRecDepth 100000 in
set_option maxHeartbeats 4000000 in
theorem kX11_harmBy_41 {l : Launch} {g : evG} {p : Program} {e : Env} {s : State} {m : MethodId} {args : Array Value} {below : List Frame} {meth : Method} {c : Code} {A : Nat → Prop} {zm : Nat → Nat} {r : Int32} (C : ctx g p s m args meth c RX11 cX11_harmBy 7 (some .int) A) {Tm : Gp} {x1 : Int32} {x2 : Int32} {x5 : Int32} {y0 : Int32} {y1 : Int32} {H : Heap} {locs : List Loc} {ls : Array Slot} (hf : fX11_harmBy_41 Tm x1 x2 x5 y0 y1 = some (r)) (hw : wl g A s.heap (gcM g zm Tm) H locs) (hl : lv_has ls 7 [(0, .ref (zm 0)), (1, .int x1), (2, .int x2), (5, .int x5)]) : W p l e (rmK 1 22) s m args below meth c H locs 0 0 (MQ below (Qi g A (gcM g zm Tm) r) args s 0 0 A) (F0 m 41 ls [.int y1, .int y0]) := by
  obtain ⟨hx, hb, hml, hown, hts, -⟩ := id C
  unfold fX11_harmBy_41 at hf
  refine lv_icmp_ne (tgt := 48) hx hb dX11_harmBy_41 (by decide) (fun hc1 => ?_) (fun hc1 => ?_)
  · have hf := it_n hf hc1
    exact kX11_harmBy_48 (zm := zm) (r := r) C hf hw (lv_sub hl [0, 1, 2, 3] rfl)
  · have hf := it_p hf hc1
    exact kX11_harmBy_44 (zm := zm) (r := r) C hf hw (lv_sub hl [0, 1, 2, 3] rfl)
set_option maxRecDepth 100000 in
set_option maxHeartbeats 4000000 in
theorem kX11_harmBy_30 {l : Launch} {g : evG} {p : Program} {e : Env} {s : State} {m : MethodId} {args : Array Value} {below : List Frame} {meth : Method} {c : Code} {A : Nat → Prop} {zm : Nat → Nat} {r : Int32} (C : ctx g p s m args meth c RX11 cX11_harmBy 7 (some .int) A) {Tm : Gp} {x1 : Int32} {x2 : Int32} {x4 : Int32} {x5 : Int32} {y0 : Int32} {H : Heap} {locs : List Loc} {ls : Array Slot} (hf : fX11_harmBy_30 Tm x1 x2 x4 x5 y0 = some (r)) (hw : wl g A s.heap (gcM g zm Tm) H locs) (hl : lv_has ls 7 [(0, .ref (zm 0)), (1, .int x1), (2, .int x2), (4, .int x4), (5, .int x5)]) : W p l e (rmK 1 22) s m args below meth c H locs 0 0 (MQ below (Qi g A (gcM g zm Tm) r) args s 0 0 A) (F0 m 30 ls [.int y0]) := by
  obtain ⟨hx, hb, hml, hown, hts, -⟩ := id C
  unfold fX11_harmBy_30 at hf
  refine lv_iload_n hx hb dX11_harmBy_30 rfl (lv_at hl 2 rfl) ?_
  refine lv_iload hx hb dX11_harmBy_31 (lv_at hl 3 rfl) ?_
  refine lv_icmp_ne (tgt := 40) hx hb dX11_harmBy_33 (by decide) (fun hc1 => ?_) (fun hc1 => ?_)
  · have hf := it_n hf hc1
    refine lv_iconst (v := (0 : Int32)) hx hb dX11_harmBy_40 rfl ?_
    exact kX11_harmBy_41 (zm := zm) (r := r) C hf hw (lv_sub hl [0, 1, 2, 4] rfl)
  · have hf := it_p hf hc1
    refine lv_iconst (v := (1 : Int32)) hx hb dX11_harmBy_36 rfl ?_
    refine lv_goto (tgt := 41) hx hb dX11_harmBy_37 (by decide) ?_
    exact kX11_harmBy_41 (zm := zm) (r := r) C hf hw (lv_sub hl [0, 1, 2, 4] rfl)
set_option maxRecDepth 100000 in
set_option maxHeartbeats 4000000 in
theorem c_X11_harmBy {l : Launch} {g : evG} {zm : Nat → Nat} {r : Int32}  {Tm : Gp} {x1 : Int32} {x2 : Int32} {x3 : Int32} {x4 : Int32} (hf : fX11_harmBy Tm x1 x2 x3 x4 = some (r)) : CTi l g yX11_harmBy (Cond.code yX11_harmBy cX11_harmBy 7 (some .int)) 1 22 [.ref (zm 0), .int x1, .int x2, .int x3, .int x4] (gcM g zm Tm) (gcM g zm Tm) r := by
  refine ct_i rfl (Nat.le_of_ble_eq_true rfl) ?_
  intro p e s m args below meth c A ls C hw hl
  have C : ctx g p s m args meth c RX11 cX11_harmBy 7 (some .int) A := C
  have hl : lv_has ls 7 [(0, .ref (zm 0)), (1, .int x1), (2, .int x2), (3, .int x3), (4, .int x4)] := hl
  obtain ⟨hx, hb, hml, hown, hts, -⟩ := id C
  unfold fX11_harmBy at hf
  refine lv_iload_n hx hb dX11_harmBy_0 rfl (lv_at hl 1 rfl) ?_
  obtain ⟨r1, hc2, hf⟩ := bd1_e hf
  refine r_callSi0 C hw (c_X11_bits hc2) md_X11_bits [] rfl rfl q5_232 ⟨Nat.le_of_ble_eq_true rfl, Nat.le_of_ble_eq_true rfl⟩ ⟨Nat.zero_le _, Nat.zero_le _⟩ hl.1 rfl rfl (Nat.le_of_ble_eq_true rfl) dX11_harmBy_1 (fun H locs hw => ?_)
  refine lv_istore (lv' := [(5, .int r1), (0, .ref (zm 0)), (1, .int x1), (2, .int x2), (3, .int x3), (4, .int x4)]) hx hb dX11_harmBy_4 hl (by decide) rfl (fun ls hl => ?_)
  refine lv_iload_n hx hb dX11_harmBy_6 rfl (lv_at hl 2 rfl) ?_
  refine lv_iload_n hx hb dX11_harmBy_7 rfl (lv_at hl 3 rfl) ?_
  refine lv_ishr hx hb dX11_harmBy_8 ?_
  refine lv_iconst (v := (1 : Int32)) hx hb dX11_harmBy_9 rfl ?_
  refine lv_iand hx hb dX11_harmBy_10 ?_
  refine lv_if_ne (tgt := 48) hx hb dX11_harmBy_11 (by decide) (fun hc5 => ?_) (fun hc5 => ?_)
  · have hf := it_n hf hc5
    exact kX11_harmBy_48 (zm := zm) (r := r) C hf hw (lv_sub hl [1, 2, 3, 0] rfl)
  · have hf := it_p hf hc5
    refine lv_iload_n hx hb dX11_harmBy_14 rfl (lv_at hl 4 rfl) ?_
    refine lv_iconst (v := (-1 : Int32)) hx hb dX11_harmBy_15 rfl ?_
    refine lv_icmp_eq (tgt := 44) hx hb dX11_harmBy_16 (by decide) (fun hc4 => ?_) (fun hc4 => ?_)
    · have hf := it_p hf hc4
      exact kX11_harmBy_44 (zm := zm) (r := r) C hf hw (lv_sub hl [1, 2, 3, 0] rfl)
    · have hf := it_n hf hc4
      refine lv_iload hx hb dX11_harmBy_19 (lv_at hl 0 rfl) ?_
      refine lv_iload_n hx hb dX11_harmBy_21 rfl (lv_at hl 4 rfl) ?_
      refine lv_icmp_ne (tgt := 29) hx hb dX11_harmBy_22 (by decide) (fun hc3 => ?_) (fun hc3 => ?_)
      · have hf := it_n hf hc3
        refine lv_iconst (v := (0 : Int32)) hx hb dX11_harmBy_29 rfl ?_
        exact kX11_harmBy_30 (zm := zm) (r := r) C hf hw (lv_sub hl [1, 2, 3, 5, 0] rfl)
      · have hf := it_p hf hc3
        refine lv_iconst (v := (1 : Int32)) hx hb dX11_harmBy_25 rfl ?_
        refine lv_goto (tgt := 30) hx hb dX11_harmBy_26 (by decide) ?_
        exact kX11_harmBy_30 (zm := zm) (r := r) C hf hw (lv_sub hl [1, 2, 3, 5, 0] rfl)
