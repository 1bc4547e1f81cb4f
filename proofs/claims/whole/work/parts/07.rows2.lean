def lpf {τ : Type} (bot : τ) (F : τ → τ) : Nat → τ
  | 0 => bot
  | n + 1 => F (lpf bot F n)
theorem so1 {α : Type} {a b : α} (h : some a = some b) : a = b := Option.some.inj h
theorem so2 {α β : Type} {a c : α} {b d : β} (h : some (a, b) = some (c, d)) : a = c ∧ b = d := by cases h; exact ⟨rfl, rfl⟩
theorem so3 {α β γ : Type} {a d : α} {b e : β} {c f : γ} (h : some (a, b, c) = some (d, e, f)) : a = d ∧ b = e ∧ c = f := by cases h; exact ⟨rfl, rfl, rfl⟩
theorem so4 {α β γ δ : Type} {a a' : α} {b b' : β} {c c' : γ} {d d' : δ} (h : some (a, b, c, d) = some (a', b', c', d')) : a = a' ∧ b = b' ∧ c = c' ∧ d = d' := by cases h; exact ⟨rfl, rfl, rfl, rfl⟩
theorem so5 {α β γ δ ε : Type} {a a' : α} {b b' : β} {c c' : γ} {d d' : δ} {e e' : ε} (h : some (a, b, c, d, e) = some (a', b', c', d', e')) : a = a' ∧ b = b' ∧ c = c' ∧ d = d' ∧ e = e' := by cases h; exact ⟨rfl, rfl, rfl, rfl, rfl⟩
theorem so9 {α β γ δ ε ζ η θ ι : Type} {a a' : α} {b b' : β} {c c' : γ} {d d' : δ} {e e' : ε} {f f' : ζ} {g g' : η} {h h' : θ} {i i' : ι} (hh : some (a, b, c, d, e, f, g, h, i) = some (a', b', c', d', e', f', g', h', i')) : a = a' ∧ b = b' ∧ c = c' ∧ d = d' ∧ e = e' ∧ f = f' ∧ g = g' ∧ h = h' ∧ i = i' := by cases hh; exact ⟨rfl, rfl, rfl, rfl, rfl, rfl, rfl, rfl, rfl⟩
def fu : Nat := 100000
def imx (x y : Int32) : Int32 := if x < y then y else x
def imn (x y : Int32) : Int32 := if y < x then y else x
def irm (x y : Int32) : Int32 := x - x / y * y
def ush (x y : Int32) : Int32 := (x.toUInt32 >>> (y.toUInt32 &&& Int32.toUInt32 31)).toInt32
def ev_b1 (x : Int32) : Int32 := x - (ush x 1 &&& 1431655765)
def ev_b2 (x : Int32) : Int32 := (x &&& 858993459) + (ush x 2 &&& 858993459)
def ev_b3 (x : Int32) : Int32 := (x + ush x 4) &&& 252645135
def ev_b4 (x : Int32) : Int32 := x + ush x 8
def ev_b5 (x : Int32) : Int32 := x + ush x 16
def ev_bc (x : Int32) : Int32 := ev_b5 (ev_b4 (ev_b3 (ev_b2 (ev_b1 x)))) &&& 63
def ev_fill (f : Nat → Int32) (n : Nat) (v : Int32) : Nat → Int32 := fun i => if i < n then v else f i
def ev_sl (k : Nat) : Int32 := Int32.ofNat (ev_len.getD k 0)
def ev_sc (k j : Nat) : Int32 := (ev_byt.getD k []).getD j 0
theorem sw_o {x : Int32} {lo hi : Int} (hlo : -2 ^ 31 ≤ lo) (hhi : hi < 2 ^ 31) (h : ∀ k : Int, lo ≤ k → k ≤ hi → ¬ x = Int32.ofInt k) : x.toInt < lo ∨ hi < x.toInt := by
  by_cases h1 : x.toInt < lo
  · exact Or.inl h1
  · by_cases h2 : hi < x.toInt
    · exact Or.inr h2
    · exact absurd (Int32.ofInt_toInt x).symm (h x.toInt (by omega) (by omega))
theorem putAt_self : ∀ (is : List Nat) (wc ws : va_W), is.map (fun i => ws[i]?) = wc.map some → putAt ws is wc = ws
  | [], _, _, _ => by simp [putAt]
  | _ :: _, [], _, _ => by simp [putAt]
  | i :: is, q :: qs, ws, h => by
    simp only [List.map_cons, List.cons.injEq] at h
    have e : ws.set i q = ws := by
      have h1 := h.1
      rw [List.getElem?_eq_some_iff] at h1
      obtain ⟨h2, h3⟩ := h1
      rw [← h3]
      exact List.set_getElem_self h2
    show putAt (ws.set i q) is qs = ws
    rw [e]
    exact putAt_self is qs ws h.2
theorem putAt_shift : ∀ (qs ws pre : va_W), ws.length = qs.length → putAt (pre ++ ws) ((List.range' pre.length qs.length)) qs = pre ++ qs
  | [], ws, pre, h => by
    have : ws = [] := List.length_eq_zero_iff.mp h
    subst this
    simp [putAt]
  | q :: qs, [], pre, h => by simp at h
  | q :: qs, w :: ws, pre, h => by
    have h1 : ws.length = qs.length := by simpa using h
    have e1 : (pre ++ w :: ws).set pre.length q = (pre ++ [q]) ++ ws := by
      rw [List.set_append_right _ _ (Nat.le_refl _), Nat.sub_self]; simp
    have e2 : List.range' pre.length (q :: qs).length = pre.length :: List.range' (pre.length + 1) qs.length := by
      rw [List.length_cons, List.range'_succ]
    rw [e2]
    show putAt ((pre ++ w :: ws).set pre.length q) (List.range' (pre.length + 1) qs.length) qs = _
    rw [e1]
    have h3 := putAt_shift qs ws (pre ++ [q]) h1
    have e3 : (pre ++ [q]).length = pre.length + 1 := by simp
    rw [e3] at h3
    rw [h3]; simp
theorem putAt_full {ws qs : va_W} {is : List Nat} (h : ws.length = qs.length) (hi : is = List.range' 0 qs.length) : putAt ws is qs = qs := by
  subst hi
  exact putAt_shift qs ws [] h
section ROWS2
variable {l : Launch} {g : evG} {p : Program} {e : Env} {R : Room} {s : State} {m : MethodId} {args : Array Value} {below : List Frame} {meth : Method} {c : Code} {own : String} {cc : ByteArray} {nL : Nat} {ret : Option FieldType} {A : Nat → Prop}
variable {ws : va_W} {H : Heap} {locs : List Loc} {cells slots : Nat} {Q : State → Prop} {pc : Nat} {ls : Array Slot} {rest st : List Value}
theorem r_callVi0 (C : ctx g p s m args meth c own cc nL ret A) (w : wl g A s.heap ws H locs) {y : MethodName} {cw : Cond} {bytes : ByteArray} {maxL n fr lo : Nat} {rt : Option FieldType} {b : Nat} {As : List Value} {wc : va_W} {r : Int32}
    (hM : CTi l g y cw fr lo (.ref b :: As) wc wc r) (md : mdV y cw bytes maxL rt n) (is : List Nat) (hC : is.map (fun i => ws[i]?) = wc.map some) (hn : va_nd is = true) {index : Nat} (hl : Cond.methodLink own index y ∈ bw)
    (q0 : Nat) {ci : Nat} {fs : List Value} (hrv : ws[q0]? = some (b, .inr (ci, fs))) {T : u_T} {N : Nat} (hcl : vwCl[ci]? = some (y.cls, T, N)) (hR : fr + 1 ≤ R.frames ∧ 8 + (maxL + 11) + lo ≤ R.locals) (hcs : cells ≤ R.cells ∧ slots ≤ R.slots) (hsz : ls.size = nL) (hAs : As.length = n) (hst : st = As.reverse ++ .ref b :: rest) (hrm : (rest.map fun v => v.category).sum ≤ 8) (hdg : decode cc pc = .ok (.invokevirtual index, 3))
    (kk : ∀ (H1 : Heap) (locs1 : List Loc), wl g A s.heap ws H1 locs1 → W p l e R s m args below meth c H1 locs1 cells slots Q (F0 m (pc + 3) ls (.int r :: rest))) : W p l e R s m args below meth c H locs cells slots Q (F0 m pc ls st) :=
  r_callVi C w hM md is hC hn rfl hl q0 hrv hcl hR hcs hsz hAs hst hrm hdg (fun H1 locs1 h => kk H1 locs1 (h.eq (putAt_self is wc ws hC)))
theorem r_callSi0 (C : ctx g p s m args meth c own cc nL ret A) (w : wl g A s.heap ws H locs) {y : MethodName} {cw : Cond} {bytes : ByteArray} {maxL n fr lo : Nat} {rt : Option FieldType} {As : List Value} {wc : va_W} {r : Int32}
    (hM : CTi l g y cw fr lo As wc wc r) (md : mdS y cw bytes maxL rt n) (is : List Nat) (hC : is.map (fun i => ws[i]?) = wc.map some) (hn : va_nd is = true) {index : Nat} (hl : Cond.methodLink own index y ∈ bw)
    (hR : fr + 1 ≤ R.frames ∧ 8 + (maxL + 11) + lo ≤ R.locals) (hcs : cells ≤ R.cells ∧ slots ≤ R.slots) (hsz : ls.size = nL) (hAs : As.length = n) (hst : st = As.reverse ++ rest) (hrm : (rest.map fun v => v.category).sum ≤ 8) (hdg : decode cc pc = .ok (.invokestatic index, 3))
    (kk : ∀ (H1 : Heap) (locs1 : List Loc), wl g A s.heap ws H1 locs1 → W p l e R s m args below meth c H1 locs1 cells slots Q (F0 m (pc + 3) ls (.int r :: rest))) : W p l e R s m args below meth c H locs cells slots Q (F0 m pc ls st) :=
  r_callSi C w hM md is hC hn rfl hl hR hcs hsz hAs hst hrm hdg (fun H1 locs1 h => kk H1 locs1 (h.eq (putAt_self is wc ws hC)))
theorem r_callNi0 (C : ctx g p s m args meth c own cc nL ret A) (w : wl g A s.heap ws H locs) {y : MethodName} {cw : Cond} {bytes : ByteArray} {maxL n fr lo : Nat} {rt : Option FieldType} {As : List Value} {wc : va_W} {r : Int32}
    (hM : CTi l g y cw fr lo As wc wc r) (md : mdS y cw bytes maxL rt n) (is : List Nat) (hC : is.map (fun i => ws[i]?) = wc.map some) (hn : va_nd is = true) {index : Nat} {host : String} (hl : Cond.methodLinkNest own index y host ∈ ev_nw)
    (hR : fr + 1 ≤ R.frames ∧ 8 + (maxL + 11) + lo ≤ R.locals) (hcs : cells ≤ R.cells ∧ slots ≤ R.slots) (hsz : ls.size = nL) (hAs : As.length = n) (hst : st = As.reverse ++ rest) (hrm : (rest.map fun v => v.category).sum ≤ 8) (hdg : decode cc pc = .ok (.invokestatic index, 3))
    (kk : ∀ (H1 : Heap) (locs1 : List Loc), wl g A s.heap ws H1 locs1 → W p l e R s m args below meth c H1 locs1 cells slots Q (F0 m (pc + 3) ls (.int r :: rest))) : W p l e R s m args below meth c H locs cells slots Q (F0 m pc ls st) :=
  r_callNi C w hM md is hC hn rfl hl hR hcs hsz hAs hst hrm hdg (fun H1 locs1 h => kk H1 locs1 (h.eq (putAt_self is wc ws hC)))
theorem r_callViF (C : ctx g p s m args meth c own cc nL ret A) (w : wl g A s.heap ws H locs) {y : MethodName} {cw : Cond} {bytes : ByteArray} {maxL n fr lo : Nat} {rt : Option FieldType} {b : Nat} {As : List Value} {wc' : va_W} {r : Int32}
    (hM : CTi l g y cw fr lo (.ref b :: As) ws wc' r) (md : mdV y cw bytes maxL rt n) (is : List Nat) (hC : is.map (fun i => ws[i]?) = ws.map some) (hn : va_nd is = true) (ha : wc'.map Prod.fst = ws.map Prod.fst) (hi : is = List.range' 0 wc'.length) {index : Nat} (hl : Cond.methodLink own index y ∈ bw)
    (q0 : Nat) {ci : Nat} {fs : List Value} (hrv : ws[q0]? = some (b, .inr (ci, fs))) {T : u_T} {N : Nat} (hcl : vwCl[ci]? = some (y.cls, T, N)) (hR : fr + 1 ≤ R.frames ∧ 8 + (maxL + 11) + lo ≤ R.locals) (hcs : cells ≤ R.cells ∧ slots ≤ R.slots) (hsz : ls.size = nL) (hAs : As.length = n) (hst : st = As.reverse ++ .ref b :: rest) (hrm : (rest.map fun v => v.category).sum ≤ 8) (hdg : decode cc pc = .ok (.invokevirtual index, 3))
    (kk : ∀ (H1 : Heap) (locs1 : List Loc), wl g A s.heap wc' H1 locs1 → W p l e R s m args below meth c H1 locs1 cells slots Q (F0 m (pc + 3) ls (.int r :: rest))) : W p l e R s m args below meth c H locs cells slots Q (F0 m pc ls st) :=
  r_callVi C w hM md is hC hn ha hl q0 hrv hcl hR hcs hsz hAs hst hrm hdg (fun H1 locs1 h => kk H1 locs1 (h.eq (putAt_full (by have := congrArg List.length ha; simpa using this.symm) hi)))
theorem r_callVvF (C : ctx g p s m args meth c own cc nL ret A) (w : wl g A s.heap ws H locs) {y : MethodName} {cw : Cond} {bytes : ByteArray} {maxL n fr lo : Nat} {rt : Option FieldType} {b : Nat} {As : List Value} {wc' : va_W}
    (hM : CTv l g y cw fr lo (.ref b :: As) ws wc') (md : mdV y cw bytes maxL rt n) (is : List Nat) (hC : is.map (fun i => ws[i]?) = ws.map some) (hn : va_nd is = true) (ha : wc'.map Prod.fst = ws.map Prod.fst) (hi : is = List.range' 0 wc'.length) {index : Nat} (hl : Cond.methodLink own index y ∈ bw)
    (q0 : Nat) {ci : Nat} {fs : List Value} (hrv : ws[q0]? = some (b, .inr (ci, fs))) {T : u_T} {N : Nat} (hcl : vwCl[ci]? = some (y.cls, T, N)) (hR : fr + 1 ≤ R.frames ∧ 8 + (maxL + 11) + lo ≤ R.locals) (hcs : cells ≤ R.cells ∧ slots ≤ R.slots) (hsz : ls.size = nL) (hAs : As.length = n) (hst : st = As.reverse ++ .ref b :: rest) (hrm : (rest.map fun v => v.category).sum ≤ 8) (hdg : decode cc pc = .ok (.invokevirtual index, 3))
    (kk : ∀ (H1 : Heap) (locs1 : List Loc), wl g A s.heap wc' H1 locs1 → W p l e R s m args below meth c H1 locs1 cells slots Q (F0 m (pc + 3) ls rest)) : W p l e R s m args below meth c H locs cells slots Q (F0 m pc ls st) :=
  r_callVv C w hM md is hC hn ha hl q0 hrv hcl hR hcs hsz hAs hst hrm hdg (fun H1 locs1 h => kk H1 locs1 (h.eq (putAt_full (by have := congrArg List.length ha; simpa using this.symm) hi)))
theorem lv_irm (hexec : p.tables.exec = Jvm.exec) (hb : c.code = cc) {x y : Int32} (hdg : decode cc pc = .ok (.irem, 1)) (hne : ¬ y = 0)
    (k : W p l e R s m args below meth c H locs cells slots Q (F0 m (pc + 1) ls (.int (irm x y) :: rest))) : W p l e R s m args below meth c H locs cells slots Q (F0 m pc ls (.int y :: .int x :: rest)) := lv_irem hexec hb hdg hne k
theorem r_mmax (C : ctx g p s m args meth c own cc nL ret A) (hsz : ls.size = nL) {index : Nat} (hlink : Cond.methodLink own index Lib.Math.max.name ∈ bw) (hstat : Cond.static Lib.Math.max.name ∈ bw) (hini : Cond.initialized "java/lang/Math" ∈ bw) (hcode : Cond.code Lib.Math.max.name Lib.Math.max.code 2 (some .int) ∈ bw)
    (hframes : 1 ≤ R.frames) (hlocals : (rest.map fun v => v.category).sum + 13 ≤ R.locals) (hc : cells ≤ R.cells) (hs : slots ≤ R.slots) {x y : Int32} (hdg : decode cc pc = .ok (.invokestatic index, 3))
    (kk : W p l e R s m args below meth c H locs cells slots Q (F0 m (pc + 3) ls (.int (imx x y) :: rest))) : W p l e R s m args below meth c H locs cells slots Q (F0 m pc ls (.int y :: .int x :: rest)) := by
  obtain ⟨hx, hb, hml, hown, hts, -⟩ := C
  exact va_mmax hx hb (hml.trans hsz.symm) hown (hts _ hlink) (hts _ hstat) (hts _ hini) (hts _ hcode) hframes hlocals hc hs hdg kk
theorem r_mmin (C : ctx g p s m args meth c own cc nL ret A) (hsz : ls.size = nL) {index : Nat} (hlink : Cond.methodLink own index Lib.Math.min.name ∈ bw) (hstat : Cond.static Lib.Math.min.name ∈ bw) (hini : Cond.initialized "java/lang/Math" ∈ bw) (hcode : Cond.code Lib.Math.min.name Lib.Math.min.code 2 (some .int) ∈ bw)
    (hframes : 1 ≤ R.frames) (hlocals : (rest.map fun v => v.category).sum + 13 ≤ R.locals) (hc : cells ≤ R.cells) (hs : slots ≤ R.slots) {x y : Int32} (hdg : decode cc pc = .ok (.invokestatic index, 3))
    (kk : W p l e R s m args below meth c H locs cells slots Q (F0 m (pc + 3) ls (.int (imn x y) :: rest))) : W p l e R s m args below meth c H locs cells slots Q (F0 m pc ls (.int y :: .int x :: rest)) := by
  obtain ⟨hx, hb, hml, hown, hts, -⟩ := C
  exact va_mmin hx hb (hml.trans hsz.symm) hown (hts _ hlink) (hts _ hstat) (hts _ hini) (hts _ hcode) hframes hlocals hc hs hdg kk
theorem r_alen (C : ctx g p s m args meth c own cc nL ret A) (w : wl g A s.heap ws H locs) (q0 t0 : Nat) {a : Nat} {cA : ClassId} {x : vp_A} (ha : ws[q0]? = some (a, .inl (cA, x))) {ty : FieldType} (ht : (tys g)[t0]? = some (cA, ty)) {v : Int32} (hv : Int32.ofNat x.1 = v) (hdg : decode cc pc = .ok (.arraylength, 1))
    (kk : W p l e R s m args below meth c H locs cells slots Q (F0 m (pc + 1) ls (.int v :: rest))) : W p l e R s m args below meth c H locs cells slots Q (F0 m pc ls (.ref a :: rest)) := by
  obtain ⟨hx, hb, hml, hown, hts, hlk, hr, hK, hA, hN, hE⟩ := C
  exact va_alen hx hb hK w.1 q0 t0 ha ht hv hdg kk
theorem r_aldK (C : ctx g p s m args meth c own cc nL ret A) (w : wl g A s.heap ws H locs) (q0 : Nat) {a b0 b1 : Nat} (ha : ws[q0]? = some (a, .inl (gO g, 2, .inr (.inr (.inr (.inr (fun i => if i = 0 then some b0 else if i = 1 then some b1 else none))))))) {i : Int32} (hin : ix i 2) (hdg : decode cc pc = .ok (.aaload, 1))
    (k0 : i = 0 → W p l e R s m args below meth c H locs cells slots Q (F0 m (pc + 1) ls (.ref b0 :: rest))) (k1 : ¬ i = 0 → W p l e R s m args below meth c H locs cells slots Q (F0 m (pc + 1) ls (.ref b1 :: rest))) : W p l e R s m args below meth c H locs cells slots Q (F0 m pc ls (.int i :: .ref a :: rest)) := by
  obtain ⟨hx, hb, hml, hown, hts, hlk, hr, hK, hA, hN, hE⟩ := C
  refine va_aldq hx hb hK w.1 q0 2 ha rfl hin hdg ?_
  obtain ⟨j, hj, rfl⟩ := vp_in_of hin (by decide)
  rw [nI_clamp (by omega)]
  rcases (show j = 0 ∨ j = 1 by omega) with rfl | rfl
  · exact k0 rfl
  · exact k1 (by decide)
theorem r_getKA (C : ctx g p s m args meth c own cc nL ret A) (hS : va_S A s.heap H locs) {index : Nat} (hl : Cond.fieldLink own index "EvenDays" "KIND_ABOVE" "[I" ∈ bw) (hdg : decode cc pc = .ok (.getstatic index, 3))
    (kk : W p l e R s m args below meth c H locs cells slots Q (F0 m (pc + 3) ls (.ref (gKA g) :: rest))) : W p l e R s m args below meth c H locs cells slots Q (F0 m pc ls rest) := by
  obtain ⟨hx, hb, hml, hown, hts, hlk, hr, hK, hA, hN, hE⟩ := C
  exact va_gets hx hb hE.1 hS hown (hts _ hl) (fun _ h => h) hdg kk
theorem r_lenKA (C : ctx g p s m args meth c own cc nL ret A) (hS : va_S A s.heap H locs) (hdg : decode cc pc = .ok (.arraylength, 1))
    (kk : W p l e R s m args below meth c H locs cells slots Q (F0 m (pc + 1) ls (.int 7 :: rest))) : W p l e R s m args below meth c H locs cells slots Q (F0 m pc ls (.ref (gKA g) :: rest)) := by
  obtain ⟨hx, hb, hml, hown, hts, hlk, hr, hK, hA, hN, hE⟩ := C
  exact va_tlen hx hb hE.2.1 hS rfl hdg kk
theorem r_ldKA (C : ctx g p s m args meth c own cc nL ret A) (hS : va_S A s.heap H locs) {i : Int32} (hin : ix i 7) (hdg : decode cc pc = .ok (.iaload, 1))
    (kk : W p l e R s m args below meth c H locs cells slots Q (F0 m (pc + 1) ls (.int (ev_ka i.toNatClampNeg) :: rest))) : W p l e R s m args below meth c H locs cells slots Q (F0 m pc ls (.int i :: .ref (gKA g) :: rest)) := by
  obtain ⟨hx, hb, hml, hown, hts, hlk, hr, hK, hA, hN, hE⟩ := C
  exact va_ti hx hb hE.2.1 hS hin rfl hdg kk
end ROWS2
set_option maxRecDepth 100000 in
theorem fill_loop {l : Launch} {g : evG} {p : Program} {e : Env} {s : State} {m : MethodId} {args : Array Value} {below : List Frame} {meth : Method} {c : Code} {A : Nat → Prop} (C : ctx g p s m args meth c RJ7 cJ7_fill_53178 4 none A) {f : Nat → Int32} {n a : Nat} {v : Int32} (hn : n < 2 ^ 31) :
    ∀ (d i : Nat), i + d = n → ∀ (H : Heap) (locs : List Loc) (ls : Array Slot), wl g A s.heap [(a, .inl (gI g, n, .inl (ev_fill f i v)))] H locs → lv_has ls 4 [(0, .ref a), (1, .int v), (2, .int (nI i)), (3, .int (nI n))] → W p l e (rmK 0 0) s m args below meth c H locs 0 0 (MQ below (Qv g A [(a, .inl (gI g, n, .inl (ev_fill f n v)))]) args s 0 0 A) (F0 m 5 ls []) := by
  obtain ⟨hx, hb, hml, hown, hts, -⟩ := id C
  intro d
  induction d with
  | zero =>
    intro i hi H locs ls hw hl
    obtain rfl : i = n := by omega
    refine lv_iload_n hx hb dJ7_fill_53178_5 rfl (lv_at hl 2 rfl) ?_
    refine lv_iload_n hx hb dJ7_fill_53178_6 rfl (lv_at hl 3 rfl) ?_
    refine lv_icmp_ge (tgt := 20) hx hb dJ7_fill_53178_7 (by decide) (fun hc => ?_) (fun hc => ?_)
    · exact r_vret C hw dJ7_fill_53178_20
    · exact absurd (nI_le (Nat.le_refl i) hn) hc
  | succ d ih =>
    intro i hi H locs ls hw hl
    refine lv_iload_n hx hb dJ7_fill_53178_5 rfl (lv_at hl 2 rfl) ?_
    refine lv_iload_n hx hb dJ7_fill_53178_6 rfl (lv_at hl 3 rfl) ?_
    refine lv_icmp_ge (tgt := 20) hx hb dJ7_fill_53178_7 (by decide) (fun hc => ?_) (fun hc => ?_)
    · exact absurd hc (nI_ge (by omega) hn)
    · refine lv_aload_n hx hb dJ7_fill_53178_10 rfl (lv_at hl 0 rfl) ?_
      refine lv_iload_n hx hb dJ7_fill_53178_11 rfl (lv_at hl 2 rfl) ?_
      refine lv_iload_n hx hb dJ7_fill_53178_12 rfl (lv_at hl 1 rfl) ?_
      refine r_iast C hw 0 (f := ev_fill f i v) rfl (vp_in_nI (by omega) hn) (ws' := [(a, .inl (gI g, n, .inl (ev_fill f (i + 1) v)))]) ?_ dJ7_fill_53178_13 (fun H locs hw => ?_)
      · have e1 : upd (ev_fill f i v) (nI i).toNatClampNeg v = ev_fill f (i + 1) v := by
          rw [nI_clamp (by omega)]
          funext j
          simp only [upd, ev_fill]
          by_cases h1 : j = i
          · subst h1; simp
          · by_cases h2 : j < i
            · simp [h1, h2, Nat.lt_succ_of_lt h2]
            · have h3 : ¬ j < i + 1 := by omega
              simp [h1, h2, h3]
        show [(a, Sum.inl (gI g, n, Sum.inl (upd (ev_fill f i v) (nI i).toNatClampNeg v)))] = _
        rw [e1]
      · refine lv_iinc (v := nI (i + 1)) (lv' := [(2, .int (nI (i + 1))), (0, .ref a), (1, .int v), (3, .int (nI n))]) hx hb dJ7_fill_53178_14 hl (k := 2) rfl (nI_1 i) (by decide) rfl (fun ls hl => ?_)
        refine lv_goto (tgt := 5) hx hb dJ7_fill_53178_17 (by decide) ?_
        exact ih (i + 1) (by omega) H locs ls hw (lv_sub hl [1, 2, 0, 3] rfl)
theorem c_fill {l : Launch} {g : evG} {f : Nat → Int32} {n a : Nat} {v : Int32} (hn : n < 2 ^ 31) : CTv l g yJ7_fill_53178 (Cond.code yJ7_fill_53178 cJ7_fill_53178 4 none) 0 0 [.ref a, .int v] [(a, .inl (gI g, n, .inl f))] [(a, .inl (gI g, n, .inl (ev_fill f n v)))] := by
  refine ct_v rfl (Nat.le_of_ble_eq_true rfl) ?_
  intro p e s m args below meth c A ls C hw hl
  have C : ctx g p s m args meth c RJ7 cJ7_fill_53178 4 none A := C
  have hl : lv_has ls 4 [(0, .ref a), (1, .int v)] := hl
  obtain ⟨hx, hb, hml, hown, hts, -⟩ := id C
  refine lv_iconst (v := nI 0) hx hb dJ7_fill_53178_0 rfl ?_
  refine lv_istore_n (lv' := [(2, .int (nI 0)), (0, .ref a), (1, .int v)]) hx hb dJ7_fill_53178_1 rfl hl (by decide) rfl (fun ls hl => ?_)
  refine lv_aload_n hx hb dJ7_fill_53178_2 rfl (lv_at hl 1 rfl) ?_
  refine r_alen C hw 0 0 rfl rfl (v := nI n) rfl dJ7_fill_53178_3 ?_
  refine lv_istore_n (lv' := [(3, .int (nI n)), (2, .int (nI 0)), (0, .ref a), (1, .int v)]) hx hb dJ7_fill_53178_4 rfl hl (by decide) rfl (fun ls hl => ?_)
  have hw : wl g A s.heap [(a, .inl (gI g, n, .inl (ev_fill f 0 v)))] s.heap [] := hw.eq (by
    have e1 : ev_fill f 0 v = f := by funext j; simp [ev_fill]
    rw [e1])
  exact fill_loop C hn n 0 (by omega) _ _ ls hw (lv_sub hl [2, 3, 1, 0] rfl)
set_option maxRecDepth 100000 in
theorem c_bitCount {l : Launch} {g : evG} {x : Int32} : CTi l g yJ6_bitCount_0f7a4 (Cond.code yJ6_bitCount_0f7a4 cJ6_bitCount_0f7a4 1 (some .int)) 0 0 [.int x] [] [] (ev_bc x) := by
  refine ct_i rfl (Nat.le_of_ble_eq_true rfl) ?_
  intro p e s m args below meth c A ls C hw hl
  have C : ctx g p s m args meth c RJ6 cJ6_bitCount_0f7a4 1 (some .int) A := C
  have hl : lv_has ls 1 [(0, .int x)] := hl
  obtain ⟨hx, hb, hml, hown, hts, -⟩ := id C
  refine lv_iload_n hx hb dJ6_bitCount_0f7a4_0 rfl (lv_at hl 0 rfl) ?_
  refine lv_iload_n hx hb dJ6_bitCount_0f7a4_1 rfl (lv_at hl 0 rfl) ?_
  refine lv_iconst (v := 1) hx hb dJ6_bitCount_0f7a4_2 rfl ?_
  refine lv_iushr (v := ush x 1) hx hb dJ6_bitCount_0f7a4_3 rfl ?_
  refine lv_ldcw (v := 1431655765) hx hb hown (hts _ q4_36) dJ6_bitCount_0f7a4_4 ?_
  refine lv_iand hx hb dJ6_bitCount_0f7a4_7 ?_
  refine lv_isub hx hb dJ6_bitCount_0f7a4_8 ?_
  refine lv_istore_n (lv' := [(0, .int (ev_b1 x))]) hx hb dJ6_bitCount_0f7a4_9 rfl hl (by decide) rfl (fun ls hl => ?_)
  refine lv_iload_n hx hb dJ6_bitCount_0f7a4_10 rfl (lv_at hl 0 rfl) ?_
  refine lv_ldcw (v := 858993459) hx hb hown (hts _ q4_37) dJ6_bitCount_0f7a4_11 ?_
  refine lv_iand hx hb dJ6_bitCount_0f7a4_14 ?_
  refine lv_iload_n hx hb dJ6_bitCount_0f7a4_15 rfl (lv_at hl 0 rfl) ?_
  refine lv_iconst (v := 2) hx hb dJ6_bitCount_0f7a4_16 rfl ?_
  refine lv_iushr (v := ush (ev_b1 x) 2) hx hb dJ6_bitCount_0f7a4_17 rfl ?_
  refine lv_ldcw (v := 858993459) hx hb hown (hts _ q4_37) dJ6_bitCount_0f7a4_18 ?_
  refine lv_iand hx hb dJ6_bitCount_0f7a4_21 ?_
  refine lv_iadd hx hb dJ6_bitCount_0f7a4_22 ?_
  refine lv_istore_n (lv' := [(0, .int (ev_b2 (ev_b1 x)))]) hx hb dJ6_bitCount_0f7a4_23 rfl hl (by decide) rfl (fun ls hl => ?_)
  refine lv_iload_n hx hb dJ6_bitCount_0f7a4_24 rfl (lv_at hl 0 rfl) ?_
  refine lv_iload_n hx hb dJ6_bitCount_0f7a4_25 rfl (lv_at hl 0 rfl) ?_
  refine lv_iconst (v := 4) hx hb dJ6_bitCount_0f7a4_26 rfl ?_
  refine lv_iushr (v := ush (ev_b2 (ev_b1 x)) 4) hx hb dJ6_bitCount_0f7a4_27 rfl ?_
  refine lv_iadd hx hb dJ6_bitCount_0f7a4_28 ?_
  refine lv_ldcw (v := 252645135) hx hb hown (hts _ q4_38) dJ6_bitCount_0f7a4_29 ?_
  refine lv_iand hx hb dJ6_bitCount_0f7a4_32 ?_
  refine lv_istore_n (lv' := [(0, .int (ev_b3 (ev_b2 (ev_b1 x))))]) hx hb dJ6_bitCount_0f7a4_33 rfl hl (by decide) rfl (fun ls hl => ?_)
  refine lv_iload_n hx hb dJ6_bitCount_0f7a4_34 rfl (lv_at hl 0 rfl) ?_
  refine lv_iload_n hx hb dJ6_bitCount_0f7a4_35 rfl (lv_at hl 0 rfl) ?_
  refine lv_bipush (v := 8) hx hb dJ6_bitCount_0f7a4_36 rfl ?_
  refine lv_iushr (v := ush (ev_b3 (ev_b2 (ev_b1 x))) 8) hx hb dJ6_bitCount_0f7a4_38 rfl ?_
  refine lv_iadd hx hb dJ6_bitCount_0f7a4_39 ?_
  refine lv_istore_n (lv' := [(0, .int (ev_b4 (ev_b3 (ev_b2 (ev_b1 x)))))]) hx hb dJ6_bitCount_0f7a4_40 rfl hl (by decide) rfl (fun ls hl => ?_)
  refine lv_iload_n hx hb dJ6_bitCount_0f7a4_41 rfl (lv_at hl 0 rfl) ?_
  refine lv_iload_n hx hb dJ6_bitCount_0f7a4_42 rfl (lv_at hl 0 rfl) ?_
  refine lv_bipush (v := 16) hx hb dJ6_bitCount_0f7a4_43 rfl ?_
  refine lv_iushr (v := ush (ev_b4 (ev_b3 (ev_b2 (ev_b1 x)))) 16) hx hb dJ6_bitCount_0f7a4_45 rfl ?_
  refine lv_iadd hx hb dJ6_bitCount_0f7a4_46 ?_
  refine lv_istore_n (lv' := [(0, .int (ev_b5 (ev_b4 (ev_b3 (ev_b2 (ev_b1 x))))))]) hx hb dJ6_bitCount_0f7a4_47 rfl hl (by decide) rfl (fun ls hl => ?_)
  refine lv_iload_n hx hb dJ6_bitCount_0f7a4_48 rfl (lv_at hl 0 rfl) ?_
  refine lv_bipush (v := 63) hx hb dJ6_bitCount_0f7a4_49 rfl ?_
  refine lv_iand hx hb dJ6_bitCount_0f7a4_51 ?_
  exact r_iret C hw rfl dJ6_bitCount_0f7a4_52
