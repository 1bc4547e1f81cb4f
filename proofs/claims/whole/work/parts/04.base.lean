/-- a group of cells: the cell, the place in it, the number there -/
abbrev Gp : Type := Nat → Nat → Int32
def u2 (S : Gp) (c i : Nat) (v : Int32) : Gp := fun c' => if c' = c then (fun i' => if i' = i then v else S c i') else S c'
/-- a whole cell anew -/
def uc (S : Gp) (c : Nat) (f : Nat → Int32) : Gp := fun c' => if c' = c then f else S c'
section BND
variable {α β δ γ ε ζ η θ : Type}
def bd1 (x : Option α) (k : α → Option γ) : Option γ := match x with | some a => k a | none => none
def bd2 (x : Option (α × β)) (k : α → β → Option γ) : Option γ := match x with | some (a, b) => k a b | none => none
def bd3 (x : Option (α × β × δ)) (k : α → β → δ → Option γ) : Option γ := match x with | some (a, b, c) => k a b c | none => none
def bd4 (x : Option (α × β × δ × ε)) (k : α → β → δ → ε → Option γ) : Option γ := match x with | some (a, b, c, d) => k a b c d | none => none
def bd5 (x : Option (α × β × δ × ε × ζ)) (k : α → β → δ → ε → ζ → Option γ) : Option γ := match x with | some (a, b, c, d, e) => k a b c d e | none => none
theorem bd1_e {x : Option α} {k : α → Option γ} {r : γ} (h : bd1 x k = some r) : ∃ a, x = some a ∧ k a = some r := by
  cases x with
  | none => cases h
  | some a => exact ⟨a, rfl, h⟩
theorem bd2_e {x : Option (α × β)} {k : α → β → Option γ} {r : γ} (h : bd2 x k = some r) : ∃ a b, x = some (a, b) ∧ k a b = some r := by
  cases x with
  | none => cases h
  | some a => exact ⟨a.1, a.2, rfl, h⟩
theorem bd3_e {x : Option (α × β × δ)} {k : α → β → δ → Option γ} {r : γ} (h : bd3 x k = some r) : ∃ a b c, x = some (a, b, c) ∧ k a b c = some r := by
  cases x with
  | none => cases h
  | some a => exact ⟨a.1, a.2.1, a.2.2, rfl, h⟩
theorem bd4_e {x : Option (α × β × δ × ε)} {k : α → β → δ → ε → Option γ} {r : γ} (h : bd4 x k = some r) : ∃ a b c d, x = some (a, b, c, d) ∧ k a b c d = some r := by
  cases x with
  | none => cases h
  | some a => exact ⟨a.1, a.2.1, a.2.2.1, a.2.2.2, rfl, h⟩
theorem bd5_e {x : Option (α × β × δ × ε × ζ)} {k : α → β → δ → ε → ζ → Option γ} {r : γ} (h : bd5 x k = some r) : ∃ a b c d e, x = some (a, b, c, d, e) ∧ k a b c d e = some r := by
  cases x with
  | none => cases h
  | some a => exact ⟨a.1, a.2.1, a.2.2.1, a.2.2.2.1, a.2.2.2.2, rfl, h⟩
theorem it_p {c : Prop} [Decidable c] {a b r : α} (h : (if c then a else b) = r) (hc : c) : a = r := (if_pos hc).symm.trans h
theorem it_n {c : Prop} [Decidable c] {a b r : α} (h : (if c then a else b) = r) (hc : ¬ c) : b = r := (if_neg hc).symm.trans h
theorem it_g {c : Prop} [Decidable c] {a : Option α} {r : α} (h : (if c then a else none) = some r) : c ∧ a = some r := by
  by_cases hc : c
  · exact ⟨hc, (if_pos hc).symm.trans h⟩
  · rw [if_neg hc] at h; cases h
theorem no_f {p : Prop} {r : α} (h : (none : Option α) = some r) : p := by cases h
end BND
/-- an index within, as what a program decides -/
abbrev ix (i : Int32) (n : Nat) : Prop := ¬ (i < 0 ∨ n ≤ i.toNatClampNeg)
/-- the words of the tables that a method may take with it -/
def bw : List Cond := lw_tbl.filter goodWord
theorem bw_in : ∀ w ∈ bw, w ∈ lw_tbl := fun _ h => (List.mem_filter.mp h).1
theorem bw_mem {w : Cond} (h : w ∈ lw_tbl) (g : goodWord w = true) : w ∈ bw := List.mem_filter.mpr ⟨h, g⟩
theorem bw_gi {c : Cond} {ws : List Cond} (h : ∀ w ∈ ws, w ∈ bw) : GoodIn (c :: bw) ws := fun w hw => ⟨List.mem_cons_of_mem _ (h w hw), good_of_word (List.mem_filter.mp (h w hw)).2⟩
theorem bw_c {c : Cond} (h : c ∈ bw) : ∀ w ∈ c :: bw, w ∈ bw := fun w hw => (List.mem_cons.mp hw).elim (fun e => e ▸ h) id
def ev_isN (w : Cond) : Bool := match w with
  | .methodLinkNest .. => true
  | .fieldLinkNest .. => true
  | _ => false
def ev_nw : List Cond := [(Cond.fieldLinkNest "EvenDays$Planner" (53) "EvenDays$Told" "pairs" "I" "EvenDays"),
  (Cond.fieldLinkNest "EvenDays$Lines" (99) "EvenDays$Told" "pairs" "I" "EvenDays"),
  (Cond.fieldLinkNest "EvenDays$Days" (80) "EvenDays$Told" "pairs" "I" "EvenDays"),
  (Cond.fieldLinkNest "EvenDays" (201) "EvenDays$Told" "pairs" "I" "EvenDays"),
  (Cond.fieldLinkNest "EvenDays$Planner" (42) "EvenDays$Told" "hours" "I" "EvenDays"),
  (Cond.fieldLinkNest "EvenDays$Lines" (105) "EvenDays$Told" "hours" "I" "EvenDays"),
  (Cond.fieldLinkNest "EvenDays" (163) "EvenDays$Told" "hours" "I" "EvenDays"),
  (Cond.fieldLinkNest "EvenDays$Days" (83) "EvenDays$Told" "hours" "I" "EvenDays"),
  (Cond.fieldLinkNest "EvenDays$Lines" (119) "EvenDays$Told" "eats" "I" "EvenDays"),
  (Cond.fieldLinkNest "EvenDays$Days" (97) "EvenDays$Told" "eats" "I" "EvenDays"),
  (Cond.fieldLinkNest "EvenDays" (254) "EvenDays$Told" "eats" "I" "EvenDays"),
  (Cond.fieldLinkNest "EvenDays$Lines" (121) "EvenDays$Told" "fine" "I" "EvenDays"),
  (Cond.fieldLinkNest "EvenDays$Days" (107) "EvenDays$Told" "fine" "I" "EvenDays"),
  (Cond.fieldLinkNest "EvenDays" (257) "EvenDays$Told" "fine" "I" "EvenDays"),
  (Cond.methodLinkNest "EvenDays" (21) ({ cls := "EvenDays$Text", name := "<init>", desc := "()V" } : MethodName) "EvenDays"),
  (Cond.fieldLinkNest "EvenDays" (91) "EvenDays$Text" "length" "I" "EvenDays"),
  (Cond.fieldLinkNest "EvenDays$Tokens" (25) "EvenDays$Text" "length" "I" "EvenDays"),
  (Cond.fieldLinkNest "EvenDays$Lines" (42) "EvenDays$Tokens" "begin" "I" "EvenDays"),
  (Cond.fieldLinkNest "EvenDays" (112) "EvenDays$Lines" "read" "I" "EvenDays"),
  (Cond.fieldLinkNest "EvenDays" (154) "EvenDays$Days" "gone" "I" "EvenDays"),
  (Cond.fieldLinkNest "EvenDays" (174) "EvenDays$Days" "bread" "[I" "EvenDays"),
  (Cond.fieldLinkNest "EvenDays" (207) "EvenDays$Planner" "one" "I" "EvenDays"),
  (Cond.fieldLinkNest "EvenDays" (210) "EvenDays$Planner" "other" "I" "EvenDays"),
  (Cond.methodLinkNest "EvenDays" (61) ({ cls := "EvenDays$Messages", name := "<init>", desc := "()V" } : MethodName) "EvenDays"),
  (Cond.methodLinkNest "EvenDays" (68) ({ cls := "EvenDays$Partners", name := "<init>", desc := "()V" } : MethodName) "EvenDays"),
  (Cond.methodLinkNest "EvenDays" (75) ({ cls := "EvenDays$Marriages", name := "<init>", desc := "()V" } : MethodName) "EvenDays"),
  (Cond.methodLinkNest "EvenDays" (82) ({ cls := "EvenDays$Rows", name := "<init>", desc := "()V" } : MethodName) "EvenDays"),
  (Cond.fieldLinkNest "EvenDays" (238) "EvenDays$Rows" "length" "I" "EvenDays"),
  (Cond.methodLinkNest "EvenDays$Text" (19) ({ cls := "EvenDays", name := "within", desc := "(III)Z" } : MethodName) "EvenDays"),
  (Cond.methodLinkNest "EvenDays$Lines" (127) ({ cls := "EvenDays", name := "within", desc := "(III)Z" } : MethodName) "EvenDays"),
  (Cond.methodLinkNest "EvenDays$Told" (54) ({ cls := "EvenDays", name := "within", desc := "(III)Z" } : MethodName) "EvenDays"),
  (Cond.methodLinkNest "EvenDays$Lines" (112) ({ cls := "EvenDays", name := "slotIndex", desc := "(III)I" } : MethodName) "EvenDays"),
  (Cond.methodLinkNest "EvenDays$Told" (58) ({ cls := "EvenDays", name := "slotIndex", desc := "(III)I" } : MethodName) "EvenDays"),
  (Cond.methodLinkNest "EvenDays$Days" (40) ({ cls := "EvenDays", name := "slotIndex", desc := "(III)I" } : MethodName) "EvenDays"),
  (Cond.methodLinkNest "EvenDays$Days" (44) ({ cls := "EvenDays", name := "within", desc := "(III)Z" } : MethodName) "EvenDays"),
  (Cond.methodLinkNest "EvenDays$Days" (48) ({ cls := "EvenDays", name := "personIndex", desc := "(II)I" } : MethodName) "EvenDays"),
  (Cond.methodLinkNest "EvenDays$Planner" (26) ({ cls := "EvenDays", name := "within", desc := "(III)Z" } : MethodName) "EvenDays"),
  (Cond.methodLinkNest "EvenDays$Partners" (18) ({ cls := "EvenDays", name := "within", desc := "(III)Z" } : MethodName) "EvenDays"),
  (Cond.methodLinkNest "EvenDays$Marriages" (31) ({ cls := "EvenDays", name := "within", desc := "(III)Z" } : MethodName) "EvenDays"),
  (Cond.methodLinkNest "EvenDays$Rows" (48) ({ cls := "EvenDays", name := "within", desc := "(III)Z" } : MethodName) "EvenDays")]
theorem ev_nw_ok : ev_nw.all ev_isN = true := by decide +kernel
def ev_N0 (U : State) : Prop := ∀ w ∈ ev_nw, va_Nw w U
theorem ev_N0_warm {s U : State} (hW : s.WarmedH U.vm) (h : ev_N0 s) : ev_N0 U := by
  intro w hw
  have hn := List.all_eq_true.mp ev_nw_ok w hw
  have h1 := h w hw
  match w, hn, h1 with
  | .methodLinkNest .., _, h1 => exact va_Nw.warmM hW h1
  | .fieldLinkNest .., _, h1 => exact va_Nw.warmF hW h1
theorem ev_N0_same {u U : State} (hv : u.vm = U.vm) (h : ev_N0 u) : ev_N0 U := by
  intro w hw
  have hn := List.all_eq_true.mp ev_nw_ok w hw
  have h1 := h w hw
  match w, hn, h1 with
  | .methodLinkNest .., _, h1 => exact va_Nw.same rfl hv h1
  | .fieldLinkNest .., _, h1 => exact va_Nw.same rfl hv h1
def ev_N (U : State) : Prop := ev_N0 U ∧ va_AO "EvenDays$Days" U
theorem ev_N_warm {s U : State} (hW : s.WarmedH U.vm) (h : ev_N s) : ev_N U := ⟨ev_N0_warm hW h.1, va_AO.moved hW.alike h.2⟩
theorem ev_N_same {u U : State} (hv : u.vm = U.vm) (h : ev_N u) : ev_N U := ⟨ev_N0_same hv h.1, va_AO.moved (by rw [hv]; exact Vm.Alike.refl _) h.2⟩
/-- what stays the same in a run: the classes' numbers and slots; the classes of int[], boolean[], EvenDays$Days[]; the cells of KIND_ABOVE, of the formatter, of the six words and their bytes -/
abbrev evG : Type := va_G × (ClassId × ClassId × ClassId) × (Nat × Nat) × ((Nat → Nat) × (Nat → Nat))
abbrev gI (g : evG) : ClassId := g.2.1.1
abbrev gZ (g : evG) : ClassId := g.2.1.2.1
abbrev gO (g : evG) : ClassId := g.2.1.2.2
abbrev gKA (g : evG) : Nat := g.2.2.1.1
abbrev gFM (g : evG) : Nat := g.2.2.1.2
abbrev gSK (g : evG) : Nat → Nat := g.2.2.2.1
abbrev gSV (g : evG) : Nat → Nat := g.2.2.2.2
abbrev tys (g : evG) : List (ClassId × FieldType) := [(gI g, .int), (gZ g, .boolean), (gO g, .object "EvenDays$Days")]
def ev_ka : Nat → Int32 := fun j => ([-1, 0, 0, 1, 3, 1, 2] : List Int32).getD j 0
def ev_sx : Nat → String := fun i => match i with
  | 0 => "treaty" | 1 => "work" | 2 => "kind" | 3 => "meant" | 4 => "eats" | _ => "fine"
def ev_si : Nat → Nat := fun i => ([48, 57, 62, 67, 72, 77] : List Nat).getD i 0
def ev_len : List Nat := [6, 4, 4, 5, 4, 4]
def ev_byt : List (List Int32) := [[116, 114, 101, 97, 116, 121], [119, 111, 114, 107], [107, 105, 110, 100], [109, 101, 97, 110, 116], [101, 97, 116, 115], [102, 105, 110, 101]]
def ev_S (g : evG) (A : Nat → Prop) (U : State) (H : Heap) : Prop :=
  va_Z "EvenDays" "KIND_ABOVE" "[I" (.ref (gKA g)) A U H ∧ va_T .int (gKA g) 7 (fun j => .int (ev_ka j)) A U H ∧ va_Z "java/lang/String" "COMPACT_STRINGS" "Z" (.int 1) A U H ∧ va_Zq "jdk/internal/util/Preconditions" "SIOOBE_FORMATTER" "Ljava/util/function/BiFunction;" A U H ∧ vk_S 6 ev_len ev_byt (gSK g) (gSV g) A U H ∧ ∀ i : Nat, i < 6 → vk_R "EvenDays$Lines" (ev_si i) (ev_sx i) (gSK g i) U
theorem ev_S_vm {g : evG} {A : Nat → Prop} {u U : State} {H : Heap} (hv : U.vm = u.vm) (h : ev_S g A u H) : ev_S g A U H := by
  obtain ⟨h1, h2, h3, h4, h5, h6⟩ := h
  have ha : u.vm.Alike U.vm := by rw [hv]; exact Vm.Alike.refl _
  exact ⟨h1.moved ha, h2.moved ha, h3.moved ha, h4.moved ha, h5.moved ha, fun i hi => vk_R.same hv (h6 i hi)⟩
theorem ev_S_call {g : evG} {A A1 : Nat → Prop} {s U : State} {H : Heap} {locs : List Loc} (h : ev_S g A s s.heap) (hS : va_S A s.heap H locs) (hW : s.WarmedH U.vm) (hU : U.heap = H) (hA1 : ∀ q, A1 q → A q) : ev_S g A1 U U.heap := by
  obtain ⟨h1, h2, h3, h4, h5, h6⟩ := h
  rw [hU]
  exact ⟨((h1.kept hS.2.1).narrow hA1).moved hW.alike, ((h2.kept hS.2.1).narrow hA1).moved hW.alike, ((h3.kept hS.2.1).narrow hA1).moved hW.alike, ((h4.kept hS.2.1).narrow hA1).moved hW.alike, ((h5.kept hS.2.1).narrow hA1).moved hW.alike, fun i hi => (h6 i hi).warm hW⟩
/-- how a method begins: the world ws, of which alone (and of new cells) it may write -/
def ctB (g : evG) (ws : va_W) (sz : Nat) (U : State) : Prop := U.heap.size = sz ∧ va_P g.1 vwCl ws U.heap ∧ va_K g.1 vwCl (tys g) U ∧ va_D (fun _ => True) ws ∧ ev_N U ∧ ev_S g (va_A ws sz) U U.heap
theorem ctB_blind {g : evG} {ws : va_W} {sz : Nat} {As : List Value} : FrameBlind (va_Pc As (ctB g ws sz)) := by
  intro a U gg mk q
  obtain ⟨q0, q1, qP, qK, qD, qN, qS⟩ := q
  exact ⟨q0, q1, qP, va_K.moved (u := U) (U := U.calling gg mk a) (Vm.Alike.refl U.vm) qK, qD, ev_N_same (u := U) rfl qN, ev_S_vm (u := U) rfl qS⟩
abbrev rmK (fr lo : Nat) : Room := { frames := fr, cells := 0, slots := 0, locals := lo }
abbrev Qi (g : evG) (A : Nat → Prop) (ws' : va_W) (r : Int32) : Array Value → State → Outcome → State → Prop := va_Qi (fun (r' : Int32) (_ : Unit) => r' = r) (fun _ t => va_P g.1 vwCl ws' t.heap) A
abbrev Qv (g : evG) (A : Nat → Prop) (ws' : va_W) : Array Value → State → Outcome → State → Prop := va_Qv (fun (_ : Unit) => True) (fun _ t => va_P g.1 vwCl ws' t.heap) A
/-- a method that makes nothing: its world is ws', its answer r -/
def CTi (l : Launch) (g : evG) (y : MethodName) (cw : Cond) (fr lo : Nat) (As : List Value) (ws ws' : va_W) (r : Int32) : Prop :=
  ∀ sz : Nat, Met l y (cw :: bw) (rmK fr lo) (va_Pc As (ctB g ws sz)) (Qi g (va_A ws sz) ws' r) 0 0 (va_A ws sz)
def CTv (l : Launch) (g : evG) (y : MethodName) (cw : Cond) (fr lo : Nat) (As : List Value) (ws ws' : va_W) : Prop :=
  ∀ sz : Nat, Met l y (cw :: bw) (rmK fr lo) (va_Pc As (ctB g ws sz)) (Qv g (va_A ws sz) ws') 0 0 (va_A ws sz)
/-- inside a method -/
def ctx (g : evG) (p : Program) (s : State) (m : MethodId) (args : Array Value) (meth : Method) (c : Code) (own : String) (cc : ByteArray) (nL : Nat) (ret : Option FieldType) (A : Nat → Prop) : Prop :=
  p.tables.exec = Jvm.exec ∧ c.code = cc ∧ c.maxLocals = nL ∧ s.vm.findClass own = some m.cls ∧ (∀ w ∈ bw, w.before args s = true) ∧ meth.locks = false ∧ meth.sig.returnType = ret ∧ va_K g.1 vwCl (tys g) s ∧ (∀ q : Nat, s.heap.size ≤ q → A q) ∧ ev_N s ∧ ev_S g A s s.heap
/-- the world at a point in it -/
def wl (g : evG) (A : Nat → Prop) (H0 : Heap) (ws : va_W) (H : Heap) (locs : List Loc) : Prop := va_P g.1 vwCl ws H ∧ va_D A ws ∧ va_S A H0 H locs
theorem wl.eq {g : evG} {A : Nat → Prop} {H0 : Heap} {ws ws' : va_W} {H : Heap} {locs : List Loc} (h : wl g A H0 ws H locs) (e : ws = ws') : wl g A H0 ws' H locs := e ▸ h
/-- new cells in their places -/
def putAt (ws : va_W) : List Nat → va_W → va_W
  | i :: is, q :: qs => putAt (ws.set i q) is qs
  | _, _ => ws
