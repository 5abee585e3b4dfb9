/-- what a slot holds: 0 an int, 1 a long, 2 a reference set once, 3 a truth value, 4 a reference that changes; by kind (0 to 12: the classes; 20 int[], 21 boolean[], 22 byte[], 23 long[], 30 and on: arrays of objects) -/
def jm_tys : List (List Nat) := [[0, 0, 0, 0, 0, 0, 0],
  [2, 2, 2, 2],
  [2, 2, 2, 2, 2, 2, 2, 0, 0, 0, 0, 0, 0, 0, 0],
  [2, 2, 2, 2, 2, 4, 4, 4, 3, 0],
  [2, 2, 2, 2, 2, 2, 2, 2, 2, 2, 0, 0, 0, 0, 0, 3, 3],
  [2, 2, 0, 0, 0, 0],
  [2, 2, 2, 2, 2, 2, 0, 0, 0, 0, 0, 0, 0],
  [2, 2, 2, 2, 2, 0, 3, 0, 3],
  [2, 0, 0, 0, 0, 0, 0, 3, 3, 4],
  [2, 2, 2, 2, 2, 0, 0, 0, 0, 0],
  [2, 2, 2, 2, 2, 2, 2, 2, 0, 0, 0, 0, 0, 0, 0, 0, 0, 0, 0, 0],
  [2, 2, 2, 2, 2, 2, 2, 2, 2, 2, 4, 4, 0, 0],
  [0, 2, 2, 2, 2, 2, 2, 2, 0, 0, 2, 0, 0, 0, 0, 1, 0, 0, 0, 2, 2, 2, 2, 2, 2, 2, 2, 2, 0, 3, 3, 2, 2, 3, 3, 0, 2, 2, 2, 2, 2, 2, 2, 2, 2, 2, 0, 0, 0, 0, 0, 0, 0, 2, 2, 2, 2, 2, 2, 2, 2, 2, 2, 2, 2, 2, 2, 2, 2, 2, 2, 2, 2, 2, 2, 2, 0, 0, 0, 2, 2, 0, 2, 2, 2, 2, 2, 2, 0, 2, 2, 2, 2, 2, 2, 2, 2, 2]]
def jm_ty (kd k : Nat) : Nat := if kd < 20 then (jm_tys.getD kd []).getD k 0 else if kd = 20 then 0 else if kd = 21 then 3 else if kd = 22 then 0 else if kd = 23 then 1 else 4
-- ===== the memory of the whole run, and one judgement over it: a frame's state, free of the machine's noise =====
/-- a truth value as a boolean cell holds it -/
def jm_b01 (x : Int32) : Int32 := if x = 0 then 0 else 1
/-- a table of two places, changed at one -/
def j_up {α : Type} (f : Nat → Nat → α) (a k : Nat) (v : α) : Nat → Nat → α := fun a' k' => if a' = a ∧ k' = k then v else f a' k'
theorem j_up_same {α : Type} (f : Nat → Nat → α) (a k : Nat) (v : α) : j_up f a k v a k = v := by simp [j_up]
theorem j_up_ne {α : Type} (f : Nat → Nat → α) {a k a' k' : Nat} (v : α) (h : ¬ (a' = a ∧ k' = k)) : j_up f a k v a' k' = f a' k' := by simp [j_up, h]
/-- base address, launch, the classes' numbers, the array classes by kind -/
abbrev JE : Type := Nat × Launch × va_G × (Nat → ClassId)
/-- a method: name, code, locals, answer -/
abbrev JX : Type := MethodName × ByteArray × Nat × Option FieldType
abbrev JI : Type := Nat → Nat → Int32
abbrev JL : Type := Nat → Nat → Int64
abbrev JG : Type := Nat → Nat → Option Nat
abbrev JS : Type := List (Nat × Nat)
abbrev JZ : Type := Room → State → Array Value → List Frame → Nat → Nat → State → Prop
def jm_val (B : Nat) (I : JI) (L : JL) (G D : JG) (kd a k : Nat) : Value := match jm_ty kd k with
  | 0 => .int (I a k)
  | 1 => .long (L a k)
  | 2 => va_rf ((G a k).map (B + ·))
  | 4 => va_rf ((D a k).map (B + ·))
  | _ => .int (jm_b01 (I a k))
def jm_cell (E : JE) (I : JI) (L : JL) (G D : JG) (sh : Nat × Nat) (a : Nat) (H : Heap) : Prop :=
  (sh.1 < 20 → ∃ r : vw_C, vwCl[sh.1]? = some r ∧ r.2.2 = sh.2 ∧ t_OB (E.1 + a) (E.2.2.1.1 sh.1) sh.2 (E.2.2.1.2 sh.1) H (jm_val E.1 I L G D sh.1 a)) ∧
  (20 ≤ sh.1 → sh.1 < 60 → H[E.1 + a]? = some (arrV (E.2.2.2 sh.1) sh.2 (jm_val E.1 I L G D sh.1 a)))
def jm_rep (E : JE) (I : JI) (L : JL) (G D : JG) (S : JS) (H : Heap) : Prop := H.size = E.1 + S.length ∧ ∀ (a : Nat) (sh : Nat × Nat), S[a]? = some sh → jm_cell E I L G D sh a H
def jm_sl (S : JS) : Nat := (S.map (fun q => q.2)).sum
def jm_isN : Cond → Bool
  | .fieldLinkNest .. => true
  | .methodLinkNest .. => true
  | .castable .. => true
  | .declares .. => true
  | _ => false
def jm_tyl (cA : Nat → ClassId) : List (ClassId × FieldType) := [(cA 20, .int), (cA 21, .boolean), (cA 22, .byte), (cA 23, .long), (cA 30, .object RX0), (cA 35, .object RX5), (cA 37, .object RX7)]
def jm_sets (j : Nat) : Int64 := ([-6148914691236517206, -3689348814741910324, -1085102592571150096, -71777214294589696, -281470681808896, -4294967296] : List Int64).getD j 0
def jm_words : String := "n       price   paid    keeps   estate  has     sale    gift    swap    need    holds   owns    degree  day     kin     share   side    water   first   free    maybe   parts   on      within  when    told    heads   shares  and     or      not     "
def jm_wb : List Int32 := [110, 32, 32, 32, 32, 32, 32, 32, 112, 114, 105, 99, 101, 32, 32, 32, 112, 97, 105, 100, 32, 32, 32, 32, 107, 101, 101, 112, 115, 32, 32, 32, 101, 115, 116, 97, 116, 101, 32, 32, 104, 97, 115, 32, 32, 32, 32, 32, 115, 97, 108, 101, 32, 32, 32, 32, 103, 105, 102, 116, 32, 32, 32, 32, 115, 119, 97, 112, 32, 32, 32, 32, 110, 101, 101, 100, 32, 32, 32, 32, 104, 111, 108, 100, 115, 32, 32, 32, 111, 119, 110, 115, 32, 32, 32, 32, 100, 101, 103, 114, 101, 101, 32, 32, 100, 97, 121, 32, 32, 32, 32, 32, 107, 105, 110, 32, 32, 32, 32, 32, 115, 104, 97, 114, 101, 32, 32, 32, 115, 105, 100, 101, 32, 32, 32, 32, 119, 97, 116, 101, 114, 32, 32, 32, 102, 105, 114, 115, 116, 32, 32, 32, 102, 114, 101, 101, 32, 32, 32, 32, 109, 97, 121, 98, 101, 32, 32, 32, 112, 97, 114, 116, 115, 32, 32, 32, 111, 110, 32, 32, 32, 32, 32, 32, 119, 105, 116, 104, 105, 110, 32, 32, 119, 104, 101, 110, 32, 32, 32, 32, 116, 111, 108, 100, 32, 32, 32, 32, 104, 101, 97, 100, 115, 32, 32, 32, 115, 104, 97, 114, 101, 115, 32, 32, 97, 110, 100, 32, 32, 32, 32, 32, 111, 114, 32, 32, 32, 32, 32, 32, 110, 111, 116, 32, 32, 32, 32, 32]
/-- the constants that lie below the base -/
def jm_St (E : JE) (s : State) : Prop :=
  va_Z "FirstComer" "SETS_WITH" "[J" (.ref (E.2.2.2 100)) (fun q => E.1 ≤ q) s s.heap ∧ va_T .long (E.2.2.2 100) 6 (fun j => .long (jm_sets j)) (fun q => E.1 ≤ q) s s.heap ∧
  vk_R "FirstComer$Reader" 86 jm_words (E.2.2.2 101) s ∧ vk_S 1 [248] [jm_wb] (fun _ => E.2.2.2 101) (fun _ => E.2.2.2 102) (fun q => E.1 ≤ q) s s.heap ∧
  va_Z "java/lang/String" "COMPACT_STRINGS" "Z" (.int 1) (fun q => E.1 ≤ q) s s.heap ∧ va_Zq "jdk/internal/util/Preconditions" "SIOOBE_FORMATTER" "Ljava/util/function/BiFunction;" (fun q => E.1 ≤ q) s s.heap ∧
  va_X (E.2.2.2 103) (E.2.2.2 104) (fun j => nI (E.2.2.2 (1000 + j))) s s.heap ∧ E.2.2.2 103 < E.1 ∧ E.2.2.2 103 < s.heap.size ∧
  vx_Zq Bundle.tN "UNASSIGNED_STACK" Bundle.steD (fun q => E.1 ≤ q) s s.heap ∧ vx_Zq Bundle.tN "SUPPRESSED_SENTINEL" Bundle.listD (fun q => E.1 ≤ q) s s.heap ∧ E.2.1.stackTraces = false
theorem jm_X_moved {b L : Nat} {xs : Nat → Int32} {s U : State} {H : Heap} (hA : s.vm.Alike U.vm) (hq : H[b]? = s.heap[b]?) (h : va_X b L xs s s.heap) : va_X b L xs U H := by
  obtain ⟨scr, h1, h2, h3⟩ := h
  exact ⟨scr, hq.trans h1, State.isArrayOf_alike hA h2, h3⟩
theorem jm_St_moved {E : JE} {s U : State} (hW : s.WarmedH U.vm) (hz : s.heap.size ≤ U.heap.size) (hh : ∀ a : Nat, a < s.heap.size → ¬ E.1 ≤ a → U.heap[a]? = s.heap[a]?) (h : jm_St E s) : jm_St E U := by
  obtain ⟨h1, h2, h3, h4, h5, h6, h7, h8, h9, h10, h11, h12⟩ := h
  exact ⟨(h1.moved hW.alike).kept hh, (h2.moved hW.alike).kept hh, h3.warm hW, (h4.moved hW.alike).kept hh, (h5.moved hW.alike).kept hh, (h6.moved hW.alike).kept hh, jm_X_moved hW.alike (hh _ h9 (Nat.not_le.mpr h8)) h7, h8, Nat.lt_of_lt_of_le h9 hz, (h10.moved hW.alike).kept hh, (h11.moved hW.alike).kept hh, h12⟩
/-- what is known of the classes and constants at a state, beside the good words -/
def jm_K (E : JE) (s : State) : Prop := va_K E.2.2.1 vwCl (jm_tyl E.2.2.2) s ∧ (∀ w ∈ lw_tbl, jm_isN w = true → va_Nw w s) ∧ (va_AO RX0 s ∧ va_AO RX5 s ∧ va_AO RX7 s) ∧ jm_St E s
theorem jm_nw_moved {s U : State} (hW : s.WarmedH U.vm) {w : Cond} (hn : jm_isN w = true) (h : va_Nw w s) : va_Nw w U := by
  cases w <;> first | exact va_Nw.warmF hW h | exact va_Nw.warmM hW h | exact va_Nw.warmC hW h | exact va_Nw.warmD hW h | (simp [jm_isN] at hn)
theorem jm_K_warm {E : JE} {s U : State} {H : Heap} {locs : List Loc} (hW : s.WarmedH U.vm) (hS : va_S (fun q => E.1 ≤ q) s.heap H locs) (hu : U.heap = H) (h : jm_K E s) : jm_K E U :=
  ⟨va_K.moved hW.alike h.1, fun w hw hn => jm_nw_moved hW hn (h.2.1 w hw hn), ⟨h.2.2.1.1.moved hW.alike, h.2.2.1.2.1.moved hW.alike, h.2.2.1.2.2.moved hW.alike⟩, jm_St_moved hW (by rw [hu]; exact hS.1) (fun a h1 h2 => by rw [hu]; exact hS.2.1 a h1 h2) h.2.2.2⟩
theorem jm_K_vm {E : JE} {s U : State} (hv : s.vm = U.vm) (hh : U.heap = s.heap) (h : jm_K E s) : jm_K E U := by
  obtain ⟨h1, h2, h3, h4, h5, h6, h7, h8, h9, h10, h11, h12⟩ := h.2.2.2
  have hA : s.vm.Alike U.vm := hv ▸ Vm.Alike.refl _
  exact ⟨va_K.moved hA h.1, fun w hw hn => va_Nw.same (by cases w <;> first | rfl | (simp [jm_isN] at hn)) hv (h.2.1 w hw hn), ⟨h.2.2.1.1.moved hA, h.2.2.1.2.1.moved hA, h.2.2.1.2.2.moved hA⟩, by
    unfold jm_St
    rw [hh]
    exact ⟨h1.moved hA, h2.moved hA, h3.same hv.symm, h4.moved hA, h5.moved hA, h6.moved hA, jm_X_moved hA rfl h7, h8, h9, h10.moved hA, h11.moved hA, h12⟩⟩
/-- the handlers of the one method that throws and of the one that catches -/
def jm_T (X : JX) (c : Code) : Prop := ((X.1.cls = "FirstComer" ∧ X.1.name = "look") → ∀ x ∈ c.exceptionTable.toList, False) ∧ ((X.1.cls = "FirstComerLaw" ∧ X.1.name = "look") → c.exceptionTable.toList = tableOf [(0, 10, 13, 13)])
def jm_C (E : JE) (X : JX) (p : Program) (s : State) (m : MethodId) (args : Array Value) (meth : Method) (c : Code) : Prop :=
  p.tables.exec = Jvm.exec ∧ c.code = X.2.1 ∧ c.maxLocals = X.2.2.1 ∧ meth.sig.returnType = X.2.2.2 ∧ meth.locks = false ∧ ((X.1.name = "<init>" → meth.name = "<init>") ∧ jm_T X c) ∧ s.vm.findClass X.1.cls = some m.cls ∧ (∀ w ∈ jm_tbl, w.before args s = true) ∧ jm_K E s
/-- the machine in method X, at pc, with these locals and this stack over this memory, comes to Z -/
def AtJ (E : JE) (X : JX) (Z : JZ) (U : Nat × Nat) (d pc : Nat) (lv : List (Nat × Value)) (st : List Value) (I : JI) (L : JL) (G D : JG) (S : JS) : Prop :=
  (S.length ≤ U.1 ∧ jm_sl S ≤ U.2) ∧ ∀ (p : Program) (e : Env) (Rm : Room) (s : State) (m : MethodId) (args : Array Value) (below : List Frame) (meth : Method) (c : Code) (H : Heap) (locs : List Loc) (n0 z0 : Nat) (ls : Array Slot),
    jm_C E X p s m args meth c → (d ≤ Rm.frames ∧ 64 * d ≤ Rm.locals) → (n0 + Rm.cells = U.1 ∧ z0 + Rm.slots = U.2) → (n0 ≤ S.length ∧ z0 ≤ jm_sl S ∧ E.1 + n0 = s.heap.size) → jm_rep E I L G D S H → va_S (fun q => E.1 ≤ q) s.heap H locs → lv_has ls X.2.2.1 lv →
    W p E.2.1 e Rm s m args below meth c H locs (S.length - n0) (jm_sl S - z0) (Z Rm s args below n0 z0) (F0 m pc ls st)
def jm_Q (E : JE) (r : Option Value) (I : JI) (L : JL) (G D : JG) (S : JS) : Array Value → State → Outcome → State → Prop := fun _ st o t => o = .returned r ∧ jm_rep E I L G D S t.heap ∧ va_F (fun q => E.1 ≤ q) st t
/-- method Y, called with these arguments over this memory, returns r and leaves that one -/
def CallJ (E : JE) (Y : JX) (d : Nat) (as : List Value) (I : JI) (L : JL) (G D : JG) (S : JS) (r : Option Value) (I' : JI) (L' : JL) (G' D' : JG) (S' : JS) : Prop :=
  (S.length ≤ S'.length ∧ jm_sl S ≤ jm_sl S') ∧ Met E.2.1 Y.1 (Cond.code Y.1 Y.2.1 Y.2.2.1 Y.2.2.2 :: jm_tbl) { frames := d, cells := S'.length - S.length, slots := jm_sl S' - jm_sl S, locals := 64 * d } (va_Pc as (fun U => jm_K E U ∧ jm_rep E I L G D S U.heap)) (jm_Q E r I' L' G' D' S') (S'.length - S.length) (jm_sl S' - jm_sl S) (fun q => E.1 ≤ q)
/-- a method's own end -/
def Zr (E : JE) (r : Option Value) (I : JI) (L : JL) (G D : JG) (S : JS) : JZ := fun _ s args below n0 z0 => MQ below (jm_Q E r I L G D S) args s (S.length - n0) (jm_sl S - z0) (fun q => E.1 ≤ q)
theorem jm_good {w : Cond} (h : w ∈ jm_tbl) : w ∈ lw_tbl ∧ ((w.onTables && w.keeps) = true ∨ ∃ ty, w = .arrayClass ty) := ⟨(List.mem_filter.mp h).1, good_of_word (List.mem_filter.mp h).2⟩
theorem jm_gi : GoodIn jm_tbl jm_tbl := fun w h => ⟨h, (jm_good h).2⟩
theorem jm_gic {w : Cond} (h : w ∈ jm_tbl) : GoodIn jm_tbl (w :: jm_tbl) := fun x hx => by
  rcases List.mem_cons.mp hx with rfl | hx
  · exact ⟨h, (jm_good h).2⟩
  · exact ⟨hx, (jm_good hx).2⟩

/-- class number ci is C with the fields T, N of them -/
def jm_CL (ci : Nat) (C : String) (T : u_T) (N : Nat) (ty : Nat → FieldType) : Prop := ci < 20 ∧ vwCl[ci]? = some (C, T, N) ∧ (∀ w ∈ u_ws C T N, w ∈ jm_tbl) ∧ (∀ k, k < N → parseFieldDescriptor (T k).2.2.1 = some (ty k)) ∧ ∀ a, a < N → ∀ b, b < N → a ≠ b → (T a).2.1 ≠ (T b).2.1
theorem jm_rep_set {E : JE} {I I' : JI} {L L' : JL} {G G' D D' : JG} {S : JS} {H H1 : Heap} {a : Nat} {sh : Nat × Nat} (h : jm_rep E I L G D S H) (hS : S[a]? = some sh) (hz : H1.size = H.size) (oq : ∀ q, q ≠ E.1 + a → H1[q]? = H[q]?)
    (hn : jm_cell E I' L' G' D' sh a H1) (ho : ∀ kd a' k, a' ≠ a → jm_val E.1 I' L' G' D' kd a' k = jm_val E.1 I L G D kd a' k) : jm_rep E I' L' G' D' S H1 := by
  refine ⟨hz.trans h.1, fun a' sh' hs => ?_⟩
  by_cases e : a' = a
  · subst e
    cases hS.symm.trans hs
    exact hn
  · have hq : H1[E.1 + a']? = H[E.1 + a']? := oq _ (by omega)
    obtain ⟨h1, h2⟩ := h.2 a' sh' hs
    refine ⟨fun hl => ?_, fun h3 h4 => ?_⟩
    · obtain ⟨r, r1, r2, r3⟩ := h1 hl
      exact ⟨r, r1, r2, (r3.kept hq).to (fun k _ => (ho _ _ _ e).symm)⟩
    · rw [hq, h2 h3 h4]
      congr 2
      funext k
      exact (ho _ _ _ e).symm
theorem jm_val_I {B : Nat} {I : JI} {L : JL} {G D : JG} {kd a k : Nat} (h : jm_ty kd k = 0) : jm_val B I L G D kd a k = .int (I a k) := by simp [jm_val, h]
theorem jm_val_L {B : Nat} {I : JI} {L : JL} {G D : JG} {kd a k : Nat} (h : jm_ty kd k = 1) : jm_val B I L G D kd a k = .long (L a k) := by simp [jm_val, h]
theorem jm_val_G {B : Nat} {I : JI} {L : JL} {G D : JG} {kd a k : Nat} (h : jm_ty kd k = 2) : jm_val B I L G D kd a k = va_rf ((G a k).map (B + ·)) := by simp [jm_val, h]
theorem jm_val_Z {B : Nat} {I : JI} {L : JL} {G D : JG} {kd a k : Nat} (h : jm_ty kd k = 3) : jm_val B I L G D kd a k = .int (jm_b01 (I a k)) := by simp [jm_val, h]
theorem jm_upd_I {B : Nat} {I : JI} {L : JL} {G D : JG} {kd a k : Nat} {x : Int32} {v : Value} (hv : jm_val B (j_up I a k x) L G D kd a k = v) (j : Nat) : updV (jm_val B I L G D kd a) k v j = jm_val B (j_up I a k x) L G D kd a j := by
  by_cases e : j = k
  · subst e; simp [updV, hv]
  · simp [updV, e, jm_val, j_up]
theorem jm_upd_L {B : Nat} {I : JI} {L : JL} {G D : JG} {kd a k : Nat} {x : Int64} {v : Value} (hv : jm_val B I (j_up L a k x) G D kd a k = v) (j : Nat) : updV (jm_val B I L G D kd a) k v j = jm_val B I (j_up L a k x) G D kd a j := by
  by_cases e : j = k
  · subst e; simp [updV, hv]
  · simp [updV, e, jm_val, j_up]
theorem jm_upd_G {B : Nat} {I : JI} {L : JL} {G D : JG} {kd a k : Nat} {x : Option Nat} {v : Value} (hv : jm_val B I L (j_up G a k x) D kd a k = v) (j : Nat) : updV (jm_val B I L G D kd a) k v j = jm_val B I L (j_up G a k x) D kd a j := by
  by_cases e : j = k
  · subst e; simp [updV, hv]
  · simp [updV, e, jm_val, j_up]
theorem jm_oth_I {B : Nat} {I : JI} {L : JL} {G D : JG} {a k : Nat} {x : Int32} (kd a' j : Nat) (h : a' ≠ a) : jm_val B (j_up I a k x) L G D kd a' j = jm_val B I L G D kd a' j := by simp [jm_val, j_up, h]
theorem jm_oth_L {B : Nat} {I : JI} {L : JL} {G D : JG} {a k : Nat} {x : Int64} (kd a' j : Nat) (h : a' ≠ a) : jm_val B I (j_up L a k x) G D kd a' j = jm_val B I L G D kd a' j := by simp [jm_val, j_up, h]
theorem jm_oth_G {B : Nat} {I : JI} {L : JL} {G D : JG} {a k : Nat} {x : Option Nat} (kd a' j : Nat) (h : a' ≠ a) : jm_val B I L (j_up G a k x) D kd a' j = jm_val B I L G D kd a' j := by simp [jm_val, j_up, h]
theorem jm_val_D {B : Nat} {I : JI} {L : JL} {G D : JG} {kd a k : Nat} (h : jm_ty kd k = 4) : jm_val B I L G D kd a k = va_rf ((D a k).map (B + ·)) := by simp [jm_val, h]
theorem jm_upd_D {B : Nat} {I : JI} {L : JL} {G D : JG} {kd a k : Nat} {x : Option Nat} {v : Value} (hv : jm_val B I L G (j_up D a k x) kd a k = v) (j : Nat) : updV (jm_val B I L G D kd a) k v j = jm_val B I L G (j_up D a k x) kd a j := by
  by_cases e : j = k
  · subst e; simp [updV, hv]
  · simp [updV, e, jm_val, j_up]
theorem jm_oth_D {B : Nat} {I : JI} {L : JL} {G D : JG} {a k : Nat} {x : Option Nat} (kd a' j : Nat) (h : a' ≠ a) : jm_val B I L G (j_up D a k x) kd a' j = jm_val B I L G D kd a' j := by simp [jm_val, j_up, h]
theorem jm_app (E : JE) (I : JI) (L : JL) (G D : JG) (S : JS) (sh : Nat × Nat) {H H1 : Heap} (h : jm_rep E I L G D S H) (hz : H1.size = H.size + 1) (oq : ∀ q, q < H.size → H1[q]? = H[q]?) (hn : jm_cell E I L G D sh S.length H1) : jm_rep E I L G D (S ++ [sh]) H1 := by
  refine ⟨by rw [hz, h.1]; simp; omega, fun a sh' hs => ?_⟩
  by_cases hl : a < S.length
  · rw [List.getElem?_append_left hl] at hs
    have hq : H1[E.1 + a]? = H[E.1 + a]? := oq _ (by rw [h.1]; omega)
    obtain ⟨h1, h2⟩ := h.2 a sh' hs
    refine ⟨fun hl => ?_, fun h3 h4 => ?_⟩
    · obtain ⟨r, r1, r2, r3⟩ := h1 hl
      exact ⟨r, r1, r2, r3.kept hq⟩
    · rw [hq, h2 h3 h4]
  · rw [List.getElem?_append_right (by omega)] at hs
    have hz : a - S.length < 1 := (List.getElem?_eq_some_iff.mp hs).1
    rw [show a - S.length = 0 by omega] at hs
    cases hs
    rw [show a = S.length by omega]
    exact hn
/-- a memory that agrees on what is there -/
theorem jm_rep_eq {E : JE} {I I' : JI} {L L' : JL} {G G' D D' : JG} {S : JS} {H : Heap} (h : jm_rep E I L G D S H) (he : ∀ (a : Nat) (sh : Nat × Nat) (k : Nat), S[a]? = some sh → k < sh.2 → jm_val E.1 I L G D sh.1 a k = jm_val E.1 I' L' G' D' sh.1 a k) : jm_rep E I' L' G' D' S H := by
  refine ⟨h.1, fun a sh hs => ?_⟩
  obtain ⟨h1, h2⟩ := h.2 a sh hs
  refine ⟨fun hl => ?_, fun h3 h4 => ?_⟩
  · obtain ⟨r, r1, r2, r3⟩ := h1 hl
    exact ⟨r, r1, r2, r3.to (fun k hk => he a sh k hs hk)⟩
  · rw [h2 h3 h4]
    unfold arrV
    congr 2
    exact congrArg Array.ofFn (funext fun k => he a sh k.val hs k.isLt)
theorem jm_sl_app (S : JS) (sh : Nat × Nat) : jm_sl (S ++ [sh]) = jm_sl S + sh.2 := by simp [jm_sl]
theorem jm_b01_or {x : Int32} (h : jm_b01 x = x) : x = 0 ∨ x = 1 := by
  unfold jm_b01 at h
  split at h
  · exact Or.inl h.symm
  · exact Or.inr h.symm
theorem jm_nar {x : Int32} (h : jm_b01 x = x) : narrow .boolean (.int x) = .int x := by
  rcases jm_b01_or h with rfl | rfl <;> rfl
theorem jm_fit {x : Int32} (h : jm_b01 x = x) : fits .boolean (.int x) = true := by
  rcases jm_b01_or h with rfl | rfl <;> rfl
theorem jm_b01_idem (x : Int32) : jm_b01 (jm_b01 x) = jm_b01 x := by
  unfold jm_b01
  by_cases h : x = 0 <;> simp [h]
section JW
variable {p : Program} {e : Env} {Rm : Room} {s : State} {m : MethodId} {args : Array Value} {below : List Frame} {meth : Method} {c : Code} {H : Heap} {locs : List Loc} {cells slots : Nat} {Q : State → Prop} {E : JE} {X : JX} {I : JI} {L : JL} {G D : JG} {S : JS} {pc a ci N k idx : Nat} {ls : Array Slot} {rest : List Value} {C : String} {T : u_T} {ty : Nat → FieldType}
theorem jm_P1 (hO : t_OB (E.1 + a) (E.2.2.1.1 ci) N (E.2.2.1.2 ci) H (jm_val E.1 I L G D ci a)) (hc : vwCl[ci]? = some (C, T, N)) : va_P E.2.2.1 vwCl [(E.1 + a, .inr (ci, (List.range N).map (jm_val E.1 I L G D ci a)))] H := by
  intro k q hq
  cases k with
  | zero =>
    cases hq
    exact ⟨_, hc, hO.to (fun k hk => by simp [vp_V, hk])⟩
  | succ k => simp at hq
theorem jm_ob (hP : jm_rep E I L G D S H) (hS : S[a]? = some (ci, N)) (hc : jm_CL ci C T N ty) : t_OB (E.1 + a) (E.2.2.1.1 ci) N (E.2.2.1.2 ci) H (jm_val E.1 I L G D ci a) := by
  obtain ⟨r, r1, r2, r3⟩ := (hP.2 a _ hS).1 hc.1
  exact r3
theorem w_get (hC : jm_C E X p s m args meth c) (hP : jm_rep E I L G D S H) (hS : S[a]? = some (ci, N)) (hc : jm_CL ci C T N ty) (hk : k < N) (hlink : Cond.fieldLink X.1.cls idx (T k).1 (T k).2.1 (T k).2.2.1 ∈ jm_tbl) (hdg : decode X.2.1 pc = .ok (.getfield idx, 3))
    (kk : W p E.2.1 e Rm s m args below meth c H locs cells slots Q (F0 m (pc + 3) ls (jm_val E.1 I L G D ci a k :: rest))) : W p E.2.1 e Rm s m args below meth c H locs cells slots Q (F0 m pc ls (.ref (E.1 + a) :: rest)) := by
  obtain ⟨hx, hb, -, -, -, -, hown, hts, hK⟩ := hC
  exact va_get (Ts := jm_tbl) hx hb hts hc.2.2.1 hown hK.1 (jm_P1 (jm_ob hP hS hc) hc.2.1) 0 rfl hc.2.1 k hk (hts _ hlink) (fun x h => h) (by simp [hk]) hdg kk
theorem w_getN {host : String} (hC : jm_C E X p s m args meth c) (hP : jm_rep E I L G D S H) (hS : S[a]? = some (ci, N)) (hc : jm_CL ci C T N ty) (hk : k < N) (hlink : Cond.fieldLinkNest X.1.cls idx (T k).1 (T k).2.1 (T k).2.2.1 host ∈ lw_tbl) (hdg : decode X.2.1 pc = .ok (.getfield idx, 3))
    (kk : W p E.2.1 e Rm s m args below meth c H locs cells slots Q (F0 m (pc + 3) ls (jm_val E.1 I L G D ci a k :: rest))) : W p E.2.1 e Rm s m args below meth c H locs cells slots Q (F0 m pc ls (.ref (E.1 + a) :: rest)) := by
  obtain ⟨hx, hb, -, -, -, -, hown, hts, hK⟩ := hC
  exact va_getN (Ts := jm_tbl) hx hb hts hc.2.2.1 hown hK.1 (jm_P1 (jm_ob hP hS hc) hc.2.1) 0 rfl hc.2.1 k hk (va_Nw.use rfl (hK.2.1 _ hlink rfl)) (fun x h => h) (by simp [hk]) hdg kk
theorem w_put {v : Value} (hC : jm_C E X p s m args meth c) (hP : jm_rep E I L G D S H) (hSv : va_S (fun q => E.1 ≤ q) s.heap H locs) (hS : S[a]? = some (ci, N)) (hc : jm_CL ci C T N ty) (hk : k < N) (hlink : Cond.fieldLink X.1.cls idx (T k).1 (T k).2.1 (T k).2.2.1 ∈ jm_tbl) (hfin : (T k).2.2.2 = false) (hn : narrow (ty k) v = v) (hfit : fits (ty k) v = true) (hdg : decode X.2.1 pc = .ok (.putfield idx, 3))
    (kk : ∀ (H1 : Heap) (locs1 : List Loc), H1.size = H.size → (∀ q, q ≠ E.1 + a → H1[q]? = H[q]?) → t_OB (E.1 + a) (E.2.2.1.1 ci) N (E.2.2.1.2 ci) H1 (updV (jm_val E.1 I L G D ci a) k v) → va_S (fun q => E.1 ≤ q) s.heap H1 locs1 → W p E.2.1 e Rm s m args below meth c H1 locs1 cells slots Q (F0 m (pc + 3) ls rest)) : W p E.2.1 e Rm s m args below meth c H locs cells slots Q (F0 m pc ls (v :: .ref (E.1 + a) :: rest)) := by
  obtain ⟨hx, hb, -, -, -, -, hown, hts, hK⟩ := hC
  obtain ⟨hlt, hcl, hin, hty, hnm⟩ := id hc
  have hap := va_apart (own := X.1.cls) hts hin ty hty hnm hK.1 hcl
  obtain ⟨cell, q1, q2, q3, q4⟩ := jm_ob hP hS hc
  obtain ⟨hSS, hfc, kC, hkC, hkind⟩ := hK.1.1 ci _ hcl
  obtain ⟨cf, kf, fi, f, hi, hsl⟩ := hSS k hk
  have hlay := hts _ (hin _ (u_in_lay hk))
  unfold u_lay at hlay
  rw [if_neg (by rw [hfin]; decide)] at hlay
  have hst := (u_facts hfc hkC (u_lays hts hin hk) hi).1
  have h6 := u_store hfc hkC hkind hlay hi (hty k hk) hn hfit
  refine W.putK hx hb (f := f) ⟨hown, hts _ hlink, ⟨_, _, _, hi⟩, hst⟩ (by rw [q2]; exact h6) q1 q3 (by rw [hsl]; exact k2_hasslot (q4 k hk)) rfl rfl hdg fun H' e1 e2 e3 => ?_
  rw [hsl] at e1 ⊢
  exact kk H' _ e2 e3 ⟨_, e1, q2, q3, t_set q4 hap hk v⟩ (hSv.put e2 e3 (by show E.1 ≤ _; omega))
theorem w_putN {v : Value} {host : String} (hC : jm_C E X p s m args meth c) (hP : jm_rep E I L G D S H) (hSv : va_S (fun q => E.1 ≤ q) s.heap H locs) (hS : S[a]? = some (ci, N)) (hc : jm_CL ci C T N ty) (hk : k < N) (hlink : Cond.fieldLinkNest X.1.cls idx (T k).1 (T k).2.1 (T k).2.2.1 host ∈ lw_tbl) (hfin : (T k).2.2.2 = false) (hn : narrow (ty k) v = v) (hfit : fits (ty k) v = true) (hdg : decode X.2.1 pc = .ok (.putfield idx, 3))
    (kk : ∀ (H1 : Heap) (locs1 : List Loc), H1.size = H.size → (∀ q, q ≠ E.1 + a → H1[q]? = H[q]?) → t_OB (E.1 + a) (E.2.2.1.1 ci) N (E.2.2.1.2 ci) H1 (updV (jm_val E.1 I L G D ci a) k v) → va_S (fun q => E.1 ≤ q) s.heap H1 locs1 → W p E.2.1 e Rm s m args below meth c H1 locs1 cells slots Q (F0 m (pc + 3) ls rest)) : W p E.2.1 e Rm s m args below meth c H locs cells slots Q (F0 m pc ls (v :: .ref (E.1 + a) :: rest)) := by
  obtain ⟨hx, hb, -, -, -, -, hown, hts, hK⟩ := hC
  obtain ⟨hlt, hcl, hin, hty, hnm⟩ := id hc
  have hap := va_apart (own := X.1.cls) hts hin ty hty hnm hK.1 hcl
  obtain ⟨cell, q1, q2, q3, q4⟩ := jm_ob hP hS hc
  obtain ⟨hSS, hfc, kC, hkC, hkind⟩ := hK.1.1 ci _ hcl
  obtain ⟨cf, kf, fi, f, hi, hsl⟩ := hSS k hk
  have hlay := hts _ (hin _ (u_in_lay hk))
  unfold u_lay at hlay
  rw [if_neg (by rw [hfin]; decide)] at hlay
  have hst := (u_facts hfc hkC (u_lays hts hin hk) hi).1
  have h6 := u_store hfc hkC hkind hlay hi (hty k hk) hn hfit
  refine va_WputK hx hb (f := f) hown (va_Nw.use rfl (hK.2.1 _ hlink rfl)) hi hst (by rw [q2]; exact h6) q1 q3 (by rw [hsl]; exact k2_hasslot (q4 k hk)) rfl rfl hdg fun H' e1 e2 e3 => ?_
  rw [hsl] at e1 ⊢
  exact kk H' _ e2 e3 ⟨_, e1, q2, q3, t_set q4 hap hk v⟩ (hSv.put e2 e3 (by show E.1 ≤ _; omega))
theorem w_putF {v : Value} (hC : jm_C E X p s m args meth c) (hP : jm_rep E I L G D S H) (hSv : va_S (fun q => E.1 ≤ q) s.heap H locs) (hS : S[a]? = some (ci, N)) (hc : jm_CL ci C T N ty) (hk : k < N) (hlink : Cond.fieldLink X.1.cls idx (T k).1 (T k).2.1 (T k).2.2.1 ∈ jm_tbl) (hfin : (T k).2.2.2 = true) (hin2 : X.1.name = "<init>") (hdecl : (T k).1 = X.1.cls) (hn : narrow (ty k) v = v) (hfit : fits (ty k) v = true) (hdg : decode X.2.1 pc = .ok (.putfield idx, 3))
    (kk : ∀ (H1 : Heap) (locs1 : List Loc), H1.size = H.size → (∀ q, q ≠ E.1 + a → H1[q]? = H[q]?) → t_OB (E.1 + a) (E.2.2.1.1 ci) N (E.2.2.1.2 ci) H1 (updV (jm_val E.1 I L G D ci a) k v) → va_S (fun q => E.1 ≤ q) s.heap H1 locs1 → W p E.2.1 e Rm s m args below meth c H1 locs1 cells slots Q (F0 m (pc + 3) ls rest)) : W p E.2.1 e Rm s m args below meth c H locs cells slots Q (F0 m pc ls (v :: .ref (E.1 + a) :: rest)) := by
  obtain ⟨hx, hb, -, -, -, hmn, hown, hts, hK⟩ := hC
  obtain ⟨hlt, hcl, hin, hty, hnm⟩ := id hc
  have hap := va_apart (own := X.1.cls) hts hin ty hty hnm hK.1 hcl
  obtain ⟨cell, q1, q2, q3, q4⟩ := jm_ob hP hS hc
  obtain ⟨hSS, hfc, kC, hkC, hkind⟩ := hK.1.1 ci _ hcl
  obtain ⟨cf, kf, fi, f, hi, hsl⟩ := hSS k hk
  have hlay := hts _ (hin _ (u_in_lay hk))
  unfold u_lay at hlay
  rw [if_pos hfin] at hlay
  have hst := (u_facts hfc hkC (u_lays hts hin hk) hi).1
  have hcf : m.cls = cf := by
    obtain ⟨_, _, c', _, _, _, -, -, hf', -, -, -, hown2, -⟩ := Cond.laysFinal_spec hlay
    have e1 : c' = cf := by have := hi.symm.trans hf'; simp at this; exact this.1.symm
    rw [hdecl] at hown2
    rw [← e1]; exact Option.some.inj (hown.symm.trans hown2)
  have h6 := u_fits hfc hkC hkind (Or.inr hlay) hi (hty k hk) hn hfit
  refine W.putFinK hx hb hown (hts _ hlink) hi hst hcf (hmn.1 hin2) (by rw [q2]; exact h6) q1 q3 (by rw [hsl]; exact k2_hasslot (q4 k hk)) rfl rfl hdg fun H' e1 e2 e3 => ?_
  rw [hsl] at e1 ⊢
  exact kk H' _ e2 e3 ⟨_, e1, q2, q3, t_set q4 hap hk v⟩ (hSv.put e2 e3 (by show E.1 ≤ _; omega))
theorem jm_ar (hP : jm_rep E I L G D S H) {kd n : Nat} (hS : S[a]? = some (kd, n)) (h1 : 20 ≤ kd) (h2 : kd < 60) : H[E.1 + a]? = some (arrV (E.2.2.2 kd) n (jm_val E.1 I L G D kd a)) := (hP.2 a _ hS).2 h1 h2
theorem jm_aty (hC : jm_C E X p s m args meth c) (t0 : Nat) {cA : ClassId} {fty : FieldType} (ht : (jm_tyl E.2.2.2)[t0]? = some (cA, fty)) : ArrOfT s cA fty := (hC.2.2.2.2.2.2.2.2.1.2 t0 _ ht).1
theorem jm_in' {n : Nat} {j : Int32} {cA : ClassId} {f : Nat → Value} (h : vp_in j n) : ¬ (j < 0 ∨ (arrV cA n f).slots.size ≤ j.toNatClampNeg) := by rw [arrV_size]; exact h
theorem jm_lt {n : Nat} {j : Int32} (h : vp_in j n) : j.toNatClampNeg < n := Nat.not_le.mp fun q => h (Or.inr q)
end JW

section JR
variable {E : JE} {X : JX} {Z : JZ} {U : Nat × Nat} {d pc : Nat} {lv : List (Nat × Value)} {st : List Value} {I : JI} {L : JL} {G D : JG} {S : JS}
theorem j_iconst {n : Int} {v : Int32} (pc' : Nat) (hd : decode X.2.1 pc = .ok (.iconst n, 1)) (hp : pc + 1 = pc') (hv : Int32.ofInt n = v) (k : AtJ E X Z U d pc' lv (.int v :: st) I L G D S) : AtJ E X Z U d pc lv st I L G D S := by
  subst hp
  exact ⟨k.1, fun p e Rm s m args below meth c H locs n0 z0 ls hC hR hU hN hP hS hl => lv_iconst hC.1 hC.2.1 hd hv (k.2 p e Rm s m args below meth c H locs n0 z0 ls hC hR hU hN hP hS hl)⟩
theorem j_bipush {n : Int} {v : Int32} (pc' : Nat) (hd : decode X.2.1 pc = .ok (.bipush n, 2)) (hp : pc + 2 = pc') (hv : (Int8.ofInt n).toInt32 = v) (k : AtJ E X Z U d pc' lv (.int v :: st) I L G D S) : AtJ E X Z U d pc lv st I L G D S := by
  subst hp
  exact ⟨k.1, fun p e Rm s m args below meth c H locs n0 z0 ls hC hR hU hN hP hS hl => lv_bipush hC.1 hC.2.1 hd hv (k.2 p e Rm s m args below meth c H locs n0 z0 ls hC hR hU hN hP hS hl)⟩
theorem j_sipush {n : Int} {v : Int32} (pc' : Nat) (hd : decode X.2.1 pc = .ok (.sipush n, 3)) (hp : pc + 3 = pc') (hv : (Int16.ofInt n).toInt32 = v) (k : AtJ E X Z U d pc' lv (.int v :: st) I L G D S) : AtJ E X Z U d pc lv st I L G D S := by
  subst hp
  exact ⟨k.1, fun p e Rm s m args below meth c H locs n0 z0 ls hC hR hU hN hP hS hl => lv_sipush hC.1 hC.2.1 hd hv (k.2 p e Rm s m args below meth c H locs n0 z0 ls hC hR hU hN hP hS hl)⟩
theorem j_lconst {n : Fin 2} {v : Int64} (pc' : Nat) (hd : decode X.2.1 pc = .ok (.lconst n, 1)) (hp : pc + 1 = pc') (hv : Int64.ofNat (n : Nat) = v) (k : AtJ E X Z U d pc' lv (.long v :: st) I L G D S) : AtJ E X Z U d pc lv st I L G D S := by
  subst hp
  exact ⟨k.1, fun p e Rm s m args below meth c H locs n0 z0 ls hC hR hU hN hP hS hl => lv_lconst hC.1 hC.2.1 hd hv (k.2 p e Rm s m args below meth c H locs n0 z0 ls hC hR hU hN hP hS hl)⟩
theorem j_null  (pc' : Nat) (hd : decode X.2.1 pc = .ok (.aconst_null, 1)) (hp : pc + 1 = pc')  (k : AtJ E X Z U d pc' lv (.null :: st) I L G D S) : AtJ E X Z U d pc lv st I L G D S := by
  subst hp
  exact ⟨k.1, fun p e Rm s m args below meth c H locs n0 z0 ls hC hR hU hN hP hS hl => lv_null hC.1 hC.2.1 hd (k.2 p e Rm s m args below meth c H locs n0 z0 ls hC hR hU hN hP hS hl)⟩
theorem j_iload_n {k : Fin 4} {i : Nat} {x : Int32} (pc' : Nat) (hd : decode X.2.1 pc = .ok (.iload_n k, 1)) (hp : pc + 1 = pc') (hi : (k : Nat) = i) (q : Nat) (hq : lv[q]? = some (i, .int x)) (k : AtJ E X Z U d pc' lv (.int x :: st) I L G D S) : AtJ E X Z U d pc lv st I L G D S := by
  subst hp
  exact ⟨k.1, fun p e Rm s m args below meth c H locs n0 z0 ls hC hR hU hN hP hS hl => lv_iload_n hC.1 hC.2.1 hd hi (lv_at hl q hq) (k.2 p e Rm s m args below meth c H locs n0 z0 ls hC hR hU hN hP hS hl)⟩
theorem j_iload {i : Nat} {x : Int32} (pc' : Nat) (hd : decode X.2.1 pc = .ok (.iload i, 2)) (hp : pc + 2 = pc') (q : Nat) (hq : lv[q]? = some (i, .int x)) (k : AtJ E X Z U d pc' lv (.int x :: st) I L G D S) : AtJ E X Z U d pc lv st I L G D S := by
  subst hp
  exact ⟨k.1, fun p e Rm s m args below meth c H locs n0 z0 ls hC hR hU hN hP hS hl => lv_iload hC.1 hC.2.1 hd (lv_at hl q hq) (k.2 p e Rm s m args below meth c H locs n0 z0 ls hC hR hU hN hP hS hl)⟩
theorem j_lload_n {k : Fin 4} {i : Nat} {x : Int64} (pc' : Nat) (hd : decode X.2.1 pc = .ok (.lload_n k, 1)) (hp : pc + 1 = pc') (hi : (k : Nat) = i) (q : Nat) (hq : lv[q]? = some (i, .long x)) (k : AtJ E X Z U d pc' lv (.long x :: st) I L G D S) : AtJ E X Z U d pc lv st I L G D S := by
  subst hp
  exact ⟨k.1, fun p e Rm s m args below meth c H locs n0 z0 ls hC hR hU hN hP hS hl => lv_lload_n hC.1 hC.2.1 hd hi (lv_at hl q hq) (k.2 p e Rm s m args below meth c H locs n0 z0 ls hC hR hU hN hP hS hl)⟩
theorem j_lload {i : Nat} {x : Int64} (pc' : Nat) (hd : decode X.2.1 pc = .ok (.lload i, 2)) (hp : pc + 2 = pc') (q : Nat) (hq : lv[q]? = some (i, .long x)) (k : AtJ E X Z U d pc' lv (.long x :: st) I L G D S) : AtJ E X Z U d pc lv st I L G D S := by
  subst hp
  exact ⟨k.1, fun p e Rm s m args below meth c H locs n0 z0 ls hC hR hU hN hP hS hl => lv_lload hC.1 hC.2.1 hd (lv_at hl q hq) (k.2 p e Rm s m args below meth c H locs n0 z0 ls hC hR hU hN hP hS hl)⟩
theorem j_aload_n {k : Fin 4} {i : Nat} {x : Nat} (pc' : Nat) (hd : decode X.2.1 pc = .ok (.aload_n k, 1)) (hp : pc + 1 = pc') (hi : (k : Nat) = i) (q : Nat) (hq : lv[q]? = some (i, .ref x)) (k : AtJ E X Z U d pc' lv (.ref x :: st) I L G D S) : AtJ E X Z U d pc lv st I L G D S := by
  subst hp
  exact ⟨k.1, fun p e Rm s m args below meth c H locs n0 z0 ls hC hR hU hN hP hS hl => lv_aload_n hC.1 hC.2.1 hd hi (lv_at hl q hq) (k.2 p e Rm s m args below meth c H locs n0 z0 ls hC hR hU hN hP hS hl)⟩
theorem j_aload {i : Nat} {x : Nat} (pc' : Nat) (hd : decode X.2.1 pc = .ok (.aload i, 2)) (hp : pc + 2 = pc') (q : Nat) (hq : lv[q]? = some (i, .ref x)) (k : AtJ E X Z U d pc' lv (.ref x :: st) I L G D S) : AtJ E X Z U d pc lv st I L G D S := by
  subst hp
  exact ⟨k.1, fun p e Rm s m args below meth c H locs n0 z0 ls hC hR hU hN hP hS hl => lv_aload hC.1 hC.2.1 hd (lv_at hl q hq) (k.2 p e Rm s m args below meth c H locs n0 z0 ls hC hR hU hN hP hS hl)⟩
theorem j_aload_nN {k : Fin 4} {i : Nat} (pc' : Nat) (hd : decode X.2.1 pc = .ok (.aload_n k, 1)) (hp : pc + 1 = pc') (hi : (k : Nat) = i) (q : Nat) (hq : lv[q]? = some (i, .null)) (k : AtJ E X Z U d pc' lv (.null :: st) I L G D S) : AtJ E X Z U d pc lv st I L G D S := by
  subst hp
  exact ⟨k.1, fun p e Rm s m args below meth c H locs n0 z0 ls hC hR hU hN hP hS hl => lv_aload_nN hC.1 hC.2.1 hd hi (lv_at hl q hq) (k.2 p e Rm s m args below meth c H locs n0 z0 ls hC hR hU hN hP hS hl)⟩
theorem j_aloadN {i : Nat} (pc' : Nat) (hd : decode X.2.1 pc = .ok (.aload i, 2)) (hp : pc + 2 = pc') (q : Nat) (hq : lv[q]? = some (i, .null)) (k : AtJ E X Z U d pc' lv (.null :: st) I L G D S) : AtJ E X Z U d pc lv st I L G D S := by
  subst hp
  exact ⟨k.1, fun p e Rm s m args below meth c H locs n0 z0 ls hC hR hU hN hP hS hl => lv_aloadN hC.1 hC.2.1 hd (lv_at hl q hq) (k.2 p e Rm s m args below meth c H locs n0 z0 ls hC hR hU hN hP hS hl)⟩
theorem j_istore_n {k : Fin 4} {i : Nat} {x : Int32} {lv' : List (Nat × Value)} (pc' : Nat) (hd : decode X.2.1 pc = .ok (.istore_n k, 1)) (hp : pc + 1 = pc') (hi : (k : Nat) = i) (hn : i < X.2.2.1) (hlp : (i, Value.int x) :: lv.filter (fun q => !(q.1 == i) && !(q.1 + 1 == i && q.2.category == 2)) = lv') (k : AtJ E X Z U d pc' lv' st I L G D S) : AtJ E X Z U d pc lv (Value.int x :: st) I L G D S := by
  subst hp
  exact ⟨k.1, fun p e Rm s m args below meth c H locs n0 z0 ls hC hR hU hN hP hS hl => lv_istore_n hC.1 hC.2.1 hd hi hl hn hlp (fun ls hl => k.2 p e Rm s m args below meth c H locs n0 z0 ls hC hR hU hN hP hS hl)⟩
theorem j_istore {i : Nat} {x : Int32} {lv' : List (Nat × Value)} (pc' : Nat) (hd : decode X.2.1 pc = .ok (.istore i, 2)) (hp : pc + 2 = pc')  (hn : i < X.2.2.1) (hlp : (i, Value.int x) :: lv.filter (fun q => !(q.1 == i) && !(q.1 + 1 == i && q.2.category == 2)) = lv') (k : AtJ E X Z U d pc' lv' st I L G D S) : AtJ E X Z U d pc lv (Value.int x :: st) I L G D S := by
  subst hp
  exact ⟨k.1, fun p e Rm s m args below meth c H locs n0 z0 ls hC hR hU hN hP hS hl => lv_istore hC.1 hC.2.1 hd hl hn hlp (fun ls hl => k.2 p e Rm s m args below meth c H locs n0 z0 ls hC hR hU hN hP hS hl)⟩
theorem j_astore_n {k : Fin 4} {i : Nat} {x : Nat} {lv' : List (Nat × Value)} (pc' : Nat) (hd : decode X.2.1 pc = .ok (.astore_n k, 1)) (hp : pc + 1 = pc') (hi : (k : Nat) = i) (hn : i < X.2.2.1) (hlp : (i, Value.ref x) :: lv.filter (fun q => !(q.1 == i) && !(q.1 + 1 == i && q.2.category == 2)) = lv') (k : AtJ E X Z U d pc' lv' st I L G D S) : AtJ E X Z U d pc lv (Value.ref x :: st) I L G D S := by
  subst hp
  exact ⟨k.1, fun p e Rm s m args below meth c H locs n0 z0 ls hC hR hU hN hP hS hl => lv_astore_n hC.1 hC.2.1 hd hi hl hn hlp (fun ls hl => k.2 p e Rm s m args below meth c H locs n0 z0 ls hC hR hU hN hP hS hl)⟩
theorem j_astore {i : Nat} {x : Nat} {lv' : List (Nat × Value)} (pc' : Nat) (hd : decode X.2.1 pc = .ok (.astore i, 2)) (hp : pc + 2 = pc')  (hn : i < X.2.2.1) (hlp : (i, Value.ref x) :: lv.filter (fun q => !(q.1 == i) && !(q.1 + 1 == i && q.2.category == 2)) = lv') (k : AtJ E X Z U d pc' lv' st I L G D S) : AtJ E X Z U d pc lv (Value.ref x :: st) I L G D S := by
  subst hp
  exact ⟨k.1, fun p e Rm s m args below meth c H locs n0 z0 ls hC hR hU hN hP hS hl => lv_astore hC.1 hC.2.1 hd hl hn hlp (fun ls hl => k.2 p e Rm s m args below meth c H locs n0 z0 ls hC hR hU hN hP hS hl)⟩
theorem j_astore_nN {k : Fin 4} {i : Nat} {lv' : List (Nat × Value)} (pc' : Nat) (hd : decode X.2.1 pc = .ok (.astore_n k, 1)) (hp : pc + 1 = pc') (hi : (k : Nat) = i) (hn : i < X.2.2.1) (hlp : (i, Value.null) :: lv.filter (fun q => !(q.1 == i) && !(q.1 + 1 == i && q.2.category == 2)) = lv') (k : AtJ E X Z U d pc' lv' st I L G D S) : AtJ E X Z U d pc lv (Value.null :: st) I L G D S := by
  subst hp
  exact ⟨k.1, fun p e Rm s m args below meth c H locs n0 z0 ls hC hR hU hN hP hS hl => lv_astore_nN hC.1 hC.2.1 hd hi hl hn hlp (fun ls hl => k.2 p e Rm s m args below meth c H locs n0 z0 ls hC hR hU hN hP hS hl)⟩
theorem j_astoreN {i : Nat} {lv' : List (Nat × Value)} (pc' : Nat) (hd : decode X.2.1 pc = .ok (.astore i, 2)) (hp : pc + 2 = pc')  (hn : i < X.2.2.1) (hlp : (i, Value.null) :: lv.filter (fun q => !(q.1 == i) && !(q.1 + 1 == i && q.2.category == 2)) = lv') (k : AtJ E X Z U d pc' lv' st I L G D S) : AtJ E X Z U d pc lv (Value.null :: st) I L G D S := by
  subst hp
  exact ⟨k.1, fun p e Rm s m args below meth c H locs n0 z0 ls hC hR hU hN hP hS hl => lv_astoreN hC.1 hC.2.1 hd hl hn hlp (fun ls hl => k.2 p e Rm s m args below meth c H locs n0 z0 ls hC hR hU hN hP hS hl)⟩
theorem j_lstore_n {k : Fin 4} {i : Nat} {x : Int64} {lv' : List (Nat × Value)} (pc' : Nat) (hd : decode X.2.1 pc = .ok (.lstore_n k, 1)) (hp : pc + 1 = pc') (hi : (k : Nat) = i) (hn : i + 1 < X.2.2.1) (hlp : (i, Value.long x) :: lv.filter (fun q => !(q.1 == i) && (!(q.1 == i + 1) && !(q.1 + 1 == i && q.2.category == 2))) = lv') (k : AtJ E X Z U d pc' lv' st I L G D S) : AtJ E X Z U d pc lv (Value.long x :: st) I L G D S := by
  subst hp
  exact ⟨k.1, fun p e Rm s m args below meth c H locs n0 z0 ls hC hR hU hN hP hS hl => lv_lstore_n hC.1 hC.2.1 hd hi hl hn hlp (fun ls hl => k.2 p e Rm s m args below meth c H locs n0 z0 ls hC hR hU hN hP hS hl)⟩
theorem j_lstore {i : Nat} {x : Int64} {lv' : List (Nat × Value)} (pc' : Nat) (hd : decode X.2.1 pc = .ok (.lstore i, 2)) (hp : pc + 2 = pc')  (hn : i + 1 < X.2.2.1) (hlp : (i, Value.long x) :: lv.filter (fun q => !(q.1 == i) && (!(q.1 == i + 1) && !(q.1 + 1 == i && q.2.category == 2))) = lv') (k : AtJ E X Z U d pc' lv' st I L G D S) : AtJ E X Z U d pc lv (Value.long x :: st) I L G D S := by
  subst hp
  exact ⟨k.1, fun p e Rm s m args below meth c H locs n0 z0 ls hC hR hU hN hP hS hl => lv_lstore hC.1 hC.2.1 hd hl hn hlp (fun ls hl => k.2 p e Rm s m args below meth c H locs n0 z0 ls hC hR hU hN hP hS hl)⟩
theorem j_iinc {i q : Nat} {n : Int} {x v : Int32} {lv' : List (Nat × Value)} (pc' : Nat) (hd : decode X.2.1 pc = .ok (.iinc i n, 3)) (hp : pc + 3 = pc') (hk : lv[q]? = some (i, .int x)) (hv : x + Int32.ofInt n = v) (hn : i < X.2.2.1) (hlp : (i, Value.int v) :: lv.filter (fun q => !(q.1 == i) && !(q.1 + 1 == i && q.2.category == 2)) = lv') (k : AtJ E X Z U d pc' lv' st I L G D S) : AtJ E X Z U d pc lv st I L G D S := by
  subst hp
  exact ⟨k.1, fun p e Rm s m args below meth c H locs n0 z0 ls hC hR hU hN hP hS hl => lv_iinc hC.1 hC.2.1 hd hl hk hv hn hlp (fun ls hl => k.2 p e Rm s m args below meth c H locs n0 z0 ls hC hR hU hN hP hS hl)⟩
theorem j_iadd {x y : Int32} (pc' : Nat) (hd : decode X.2.1 pc = .ok (.iadd, 1)) (hp : pc + 1 = pc')  (k : AtJ E X Z U d pc' lv (.int (x + y) :: st) I L G D S) : AtJ E X Z U d pc lv (.int y :: .int x :: st) I L G D S := by
  subst hp
  exact ⟨k.1, fun p e Rm s m args below meth c H locs n0 z0 ls hC hR hU hN hP hS hl => lv_iadd hC.1 hC.2.1 hd (k.2 p e Rm s m args below meth c H locs n0 z0 ls hC hR hU hN hP hS hl)⟩
theorem j_isub {x y : Int32} (pc' : Nat) (hd : decode X.2.1 pc = .ok (.isub, 1)) (hp : pc + 1 = pc')  (k : AtJ E X Z U d pc' lv (.int (x - y) :: st) I L G D S) : AtJ E X Z U d pc lv (.int y :: .int x :: st) I L G D S := by
  subst hp
  exact ⟨k.1, fun p e Rm s m args below meth c H locs n0 z0 ls hC hR hU hN hP hS hl => lv_isub hC.1 hC.2.1 hd (k.2 p e Rm s m args below meth c H locs n0 z0 ls hC hR hU hN hP hS hl)⟩
theorem j_imul {x y : Int32} (pc' : Nat) (hd : decode X.2.1 pc = .ok (.imul, 1)) (hp : pc + 1 = pc')  (k : AtJ E X Z U d pc' lv (.int (x * y) :: st) I L G D S) : AtJ E X Z U d pc lv (.int y :: .int x :: st) I L G D S := by
  subst hp
  exact ⟨k.1, fun p e Rm s m args below meth c H locs n0 z0 ls hC hR hU hN hP hS hl => lv_imul hC.1 hC.2.1 hd (k.2 p e Rm s m args below meth c H locs n0 z0 ls hC hR hU hN hP hS hl)⟩
theorem j_iand {x y : Int32} (pc' : Nat) (hd : decode X.2.1 pc = .ok (.iand, 1)) (hp : pc + 1 = pc')  (k : AtJ E X Z U d pc' lv (.int (x &&& y) :: st) I L G D S) : AtJ E X Z U d pc lv (.int y :: .int x :: st) I L G D S := by
  subst hp
  exact ⟨k.1, fun p e Rm s m args below meth c H locs n0 z0 ls hC hR hU hN hP hS hl => lv_iand hC.1 hC.2.1 hd (k.2 p e Rm s m args below meth c H locs n0 z0 ls hC hR hU hN hP hS hl)⟩
theorem j_ior {x y : Int32} (pc' : Nat) (hd : decode X.2.1 pc = .ok (.ior, 1)) (hp : pc + 1 = pc')  (k : AtJ E X Z U d pc' lv (.int (x ||| y) :: st) I L G D S) : AtJ E X Z U d pc lv (.int y :: .int x :: st) I L G D S := by
  subst hp
  exact ⟨k.1, fun p e Rm s m args below meth c H locs n0 z0 ls hC hR hU hN hP hS hl => lv_ior hC.1 hC.2.1 hd (k.2 p e Rm s m args below meth c H locs n0 z0 ls hC hR hU hN hP hS hl)⟩
theorem j_ixor {x y : Int32} (pc' : Nat) (hd : decode X.2.1 pc = .ok (.ixor, 1)) (hp : pc + 1 = pc')  (k : AtJ E X Z U d pc' lv (.int (x ^^^ y) :: st) I L G D S) : AtJ E X Z U d pc lv (.int y :: .int x :: st) I L G D S := by
  subst hp
  exact ⟨k.1, fun p e Rm s m args below meth c H locs n0 z0 ls hC hR hU hN hP hS hl => lv_ixor hC.1 hC.2.1 hd (k.2 p e Rm s m args below meth c H locs n0 z0 ls hC hR hU hN hP hS hl)⟩
theorem j_ishl {x y : Int32} (pc' : Nat) (hd : decode X.2.1 pc = .ok (.ishl, 1)) (hp : pc + 1 = pc')  (k : AtJ E X Z U d pc' lv (.int (x <<< (y &&& 31)) :: st) I L G D S) : AtJ E X Z U d pc lv (.int y :: .int x :: st) I L G D S := by
  subst hp
  exact ⟨k.1, fun p e Rm s m args below meth c H locs n0 z0 ls hC hR hU hN hP hS hl => lv_ishl hC.1 hC.2.1 hd (k.2 p e Rm s m args below meth c H locs n0 z0 ls hC hR hU hN hP hS hl)⟩
theorem j_ishr {x y : Int32} (pc' : Nat) (hd : decode X.2.1 pc = .ok (.ishr, 1)) (hp : pc + 1 = pc')  (k : AtJ E X Z U d pc' lv (.int (x >>> (y &&& 31)) :: st) I L G D S) : AtJ E X Z U d pc lv (.int y :: .int x :: st) I L G D S := by
  subst hp
  exact ⟨k.1, fun p e Rm s m args below meth c H locs n0 z0 ls hC hR hU hN hP hS hl => lv_ishr hC.1 hC.2.1 hd (k.2 p e Rm s m args below meth c H locs n0 z0 ls hC hR hU hN hP hS hl)⟩
theorem j_iushr {x y : Int32} (pc' : Nat) (hd : decode X.2.1 pc = .ok (.iushr, 1)) (hp : pc + 1 = pc')  (k : AtJ E X Z U d pc' lv (.int (x.toUInt32 >>> (y.toUInt32 &&& Int32.toUInt32 31)).toInt32 :: st) I L G D S) : AtJ E X Z U d pc lv (.int y :: .int x :: st) I L G D S := by
  subst hp
  exact ⟨k.1, fun p e Rm s m args below meth c H locs n0 z0 ls hC hR hU hN hP hS hl => lv_iushr hC.1 hC.2.1 hd rfl (k.2 p e Rm s m args below meth c H locs n0 z0 ls hC hR hU hN hP hS hl)⟩
theorem j_idiv {x y : Int32} (pc' : Nat) (hd : decode X.2.1 pc = .ok (.idiv, 1)) (hp : pc + 1 = pc') (hne : ¬ y = 0) (k : AtJ E X Z U d pc' lv (.int (x / y) :: st) I L G D S) : AtJ E X Z U d pc lv (.int y :: .int x :: st) I L G D S := by
  subst hp
  exact ⟨k.1, fun p e Rm s m args below meth c H locs n0 z0 ls hC hR hU hN hP hS hl => lv_idiv hC.1 hC.2.1 hd hne (k.2 p e Rm s m args below meth c H locs n0 z0 ls hC hR hU hN hP hS hl)⟩
theorem j_irem {x y : Int32} (pc' : Nat) (hd : decode X.2.1 pc = .ok (.irem, 1)) (hp : pc + 1 = pc') (hne : ¬ y = 0) (k : AtJ E X Z U d pc' lv (.int (x - x / y * y) :: st) I L G D S) : AtJ E X Z U d pc lv (.int y :: .int x :: st) I L G D S := by
  subst hp
  exact ⟨k.1, fun p e Rm s m args below meth c H locs n0 z0 ls hC hR hU hN hP hS hl => lv_irem hC.1 hC.2.1 hd hne (k.2 p e Rm s m args below meth c H locs n0 z0 ls hC hR hU hN hP hS hl)⟩
theorem j_ineg {x : Int32} (pc' : Nat) (hd : decode X.2.1 pc = .ok (.ineg, 1)) (hp : pc + 1 = pc')  (k : AtJ E X Z U d pc' lv (.int (-x) :: st) I L G D S) : AtJ E X Z U d pc lv (.int x :: st) I L G D S := by
  subst hp
  exact ⟨k.1, fun p e Rm s m args below meth c H locs n0 z0 ls hC hR hU hN hP hS hl => lv_ineg hC.1 hC.2.1 hd (k.2 p e Rm s m args below meth c H locs n0 z0 ls hC hR hU hN hP hS hl)⟩
theorem j_ladd {x y : Int64} (pc' : Nat) (hd : decode X.2.1 pc = .ok (.ladd, 1)) (hp : pc + 1 = pc')  (k : AtJ E X Z U d pc' lv (.long (x + y) :: st) I L G D S) : AtJ E X Z U d pc lv (.long y :: .long x :: st) I L G D S := by
  subst hp
  exact ⟨k.1, fun p e Rm s m args below meth c H locs n0 z0 ls hC hR hU hN hP hS hl => lv_ladd hC.1 hC.2.1 hd (k.2 p e Rm s m args below meth c H locs n0 z0 ls hC hR hU hN hP hS hl)⟩
theorem j_lsub {x y : Int64} (pc' : Nat) (hd : decode X.2.1 pc = .ok (.lsub, 1)) (hp : pc + 1 = pc')  (k : AtJ E X Z U d pc' lv (.long (x - y) :: st) I L G D S) : AtJ E X Z U d pc lv (.long y :: .long x :: st) I L G D S := by
  subst hp
  exact ⟨k.1, fun p e Rm s m args below meth c H locs n0 z0 ls hC hR hU hN hP hS hl => lv_lsub hC.1 hC.2.1 hd (k.2 p e Rm s m args below meth c H locs n0 z0 ls hC hR hU hN hP hS hl)⟩
theorem j_lmul {x y : Int64} (pc' : Nat) (hd : decode X.2.1 pc = .ok (.lmul, 1)) (hp : pc + 1 = pc')  (k : AtJ E X Z U d pc' lv (.long (x * y) :: st) I L G D S) : AtJ E X Z U d pc lv (.long y :: .long x :: st) I L G D S := by
  subst hp
  exact ⟨k.1, fun p e Rm s m args below meth c H locs n0 z0 ls hC hR hU hN hP hS hl => lv_lmul hC.1 hC.2.1 hd (k.2 p e Rm s m args below meth c H locs n0 z0 ls hC hR hU hN hP hS hl)⟩
theorem j_land {x y : Int64} (pc' : Nat) (hd : decode X.2.1 pc = .ok (.land, 1)) (hp : pc + 1 = pc')  (k : AtJ E X Z U d pc' lv (.long (x &&& y) :: st) I L G D S) : AtJ E X Z U d pc lv (.long y :: .long x :: st) I L G D S := by
  subst hp
  exact ⟨k.1, fun p e Rm s m args below meth c H locs n0 z0 ls hC hR hU hN hP hS hl => lv_land hC.1 hC.2.1 hd (k.2 p e Rm s m args below meth c H locs n0 z0 ls hC hR hU hN hP hS hl)⟩
theorem j_lor {x y : Int64} (pc' : Nat) (hd : decode X.2.1 pc = .ok (.lor, 1)) (hp : pc + 1 = pc')  (k : AtJ E X Z U d pc' lv (.long (x ||| y) :: st) I L G D S) : AtJ E X Z U d pc lv (.long y :: .long x :: st) I L G D S := by
  subst hp
  exact ⟨k.1, fun p e Rm s m args below meth c H locs n0 z0 ls hC hR hU hN hP hS hl => lv_lor hC.1 hC.2.1 hd (k.2 p e Rm s m args below meth c H locs n0 z0 ls hC hR hU hN hP hS hl)⟩
theorem j_lxor {x y : Int64} (pc' : Nat) (hd : decode X.2.1 pc = .ok (.lxor, 1)) (hp : pc + 1 = pc')  (k : AtJ E X Z U d pc' lv (.long (x ^^^ y) :: st) I L G D S) : AtJ E X Z U d pc lv (.long y :: .long x :: st) I L G D S := by
  subst hp
  exact ⟨k.1, fun p e Rm s m args below meth c H locs n0 z0 ls hC hR hU hN hP hS hl => lv_lxor hC.1 hC.2.1 hd (k.2 p e Rm s m args below meth c H locs n0 z0 ls hC hR hU hN hP hS hl)⟩
theorem j_lshl {x : Int64} {y : Int32} (pc' : Nat) (hd : decode X.2.1 pc = .ok (.lshl, 1)) (hp : pc + 1 = pc')  (k : AtJ E X Z U d pc' lv (.long (x <<< (y.toInt64 &&& 63)) :: st) I L G D S) : AtJ E X Z U d pc lv (.int y :: .long x :: st) I L G D S := by
  subst hp
  exact ⟨k.1, fun p e Rm s m args below meth c H locs n0 z0 ls hC hR hU hN hP hS hl => lv_lshl hC.1 hC.2.1 hd rfl (k.2 p e Rm s m args below meth c H locs n0 z0 ls hC hR hU hN hP hS hl)⟩
theorem j_lushr {x : Int64} {y : Int32} (pc' : Nat) (hd : decode X.2.1 pc = .ok (.lushr, 1)) (hp : pc + 1 = pc')  (k : AtJ E X Z U d pc' lv (.long (x.toUInt64 >>> (y.toInt64.toUInt64 &&& Int64.toUInt64 63)).toInt64 :: st) I L G D S) : AtJ E X Z U d pc lv (.int y :: .long x :: st) I L G D S := by
  subst hp
  exact ⟨k.1, fun p e Rm s m args below meth c H locs n0 z0 ls hC hR hU hN hP hS hl => lv_lushr hC.1 hC.2.1 hd rfl (k.2 p e Rm s m args below meth c H locs n0 z0 ls hC hR hU hN hP hS hl)⟩
theorem j_i2l {x : Int32} (pc' : Nat) (hd : decode X.2.1 pc = .ok (.i2l, 1)) (hp : pc + 1 = pc')  (k : AtJ E X Z U d pc' lv (.long x.toInt64 :: st) I L G D S) : AtJ E X Z U d pc lv (.int x :: st) I L G D S := by
  subst hp
  exact ⟨k.1, fun p e Rm s m args below meth c H locs n0 z0 ls hC hR hU hN hP hS hl => lv_i2l hC.1 hC.2.1 hd rfl (k.2 p e Rm s m args below meth c H locs n0 z0 ls hC hR hU hN hP hS hl)⟩
theorem j_l2i {x : Int64} (pc' : Nat) (hd : decode X.2.1 pc = .ok (.l2i, 1)) (hp : pc + 1 = pc')  (k : AtJ E X Z U d pc' lv (.int x.toInt32 :: st) I L G D S) : AtJ E X Z U d pc lv (.long x :: st) I L G D S := by
  subst hp
  exact ⟨k.1, fun p e Rm s m args below meth c H locs n0 z0 ls hC hR hU hN hP hS hl => lv_l2i hC.1 hC.2.1 hd rfl (k.2 p e Rm s m args below meth c H locs n0 z0 ls hC hR hU hN hP hS hl)⟩
theorem j_i2b {x : Int32} (pc' : Nat) (hd : decode X.2.1 pc = .ok (.i2b, 1)) (hp : pc + 1 = pc')  (k : AtJ E X Z U d pc' lv (.int x.toInt8.toInt32 :: st) I L G D S) : AtJ E X Z U d pc lv (.int x :: st) I L G D S := by
  subst hp
  exact ⟨k.1, fun p e Rm s m args below meth c H locs n0 z0 ls hC hR hU hN hP hS hl => lv_i2b hC.1 hC.2.1 hd rfl (k.2 p e Rm s m args below meth c H locs n0 z0 ls hC hR hU hN hP hS hl)⟩
theorem j_lcmp {x y : Int64} (pc' : Nat) (hd : decode X.2.1 pc = .ok (.lcmp, 1)) (hp : pc + 1 = pc')  (k : AtJ E X Z U d pc' lv (.int (lg_cmp x y) :: st) I L G D S) : AtJ E X Z U d pc lv (.long y :: .long x :: st) I L G D S := by
  subst hp
  exact ⟨k.1, fun p e Rm s m args below meth c H locs n0 z0 ls hC hR hU hN hP hS hl => W.lcmp hC.1 hC.2.1 hd (k.2 p e Rm s m args below meth c H locs n0 z0 ls hC hR hU hN hP hS hl)⟩
theorem j_dup {va : Value} (pc' : Nat) (hd : decode X.2.1 pc = .ok (.dup, 1)) (hp : pc + 1 = pc') (hva : va.category = 1) (k : AtJ E X Z U d pc' lv (va :: va :: st) I L G D S) : AtJ E X Z U d pc lv (va :: st) I L G D S := by
  subst hp
  exact ⟨k.1, fun p e Rm s m args below meth c H locs n0 z0 ls hC hR hU hN hP hS hl => lv_dup hC.1 hC.2.1 hd hva (k.2 p e Rm s m args below meth c H locs n0 z0 ls hC hR hU hN hP hS hl)⟩
theorem j_dup2_11 {va vb : Value} (pc' : Nat) (hd : decode X.2.1 pc = .ok (.dup2, 1)) (hp : pc + 1 = pc') (hva : va.category = 1) (hvb : vb.category = 1) (k : AtJ E X Z U d pc' lv (va :: vb :: va :: vb :: st) I L G D S) : AtJ E X Z U d pc lv (va :: vb :: st) I L G D S := by
  subst hp
  exact ⟨k.1, fun p e Rm s m args below meth c H locs n0 z0 ls hC hR hU hN hP hS hl => lv_dup2_11 hC.1 hC.2.1 hd hva hvb (k.2 p e Rm s m args below meth c H locs n0 z0 ls hC hR hU hN hP hS hl)⟩
theorem j_dup2_2 {va : Value} (pc' : Nat) (hd : decode X.2.1 pc = .ok (.dup2, 1)) (hp : pc + 1 = pc') (hva : va.category = 2) (k : AtJ E X Z U d pc' lv (va :: va :: st) I L G D S) : AtJ E X Z U d pc lv (va :: st) I L G D S := by
  subst hp
  exact ⟨k.1, fun p e Rm s m args below meth c H locs n0 z0 ls hC hR hU hN hP hS hl => lv_dup2_2 hC.1 hC.2.1 hd hva (k.2 p e Rm s m args below meth c H locs n0 z0 ls hC hR hU hN hP hS hl)⟩
theorem j_pop {va : Value} (pc' : Nat) (hd : decode X.2.1 pc = .ok (.pop, 1)) (hp : pc + 1 = pc') (hva : va.category = 1) (k : AtJ E X Z U d pc' lv st I L G D S) : AtJ E X Z U d pc lv (va :: st) I L G D S := by
  subst hp
  exact ⟨k.1, fun p e Rm s m args below meth c H locs n0 z0 ls hC hR hU hN hP hS hl => lv_pop hC.1 hC.2.1 hd hva (k.2 p e Rm s m args below meth c H locs n0 z0 ls hC hR hU hN hP hS hl)⟩
theorem j_ifnull {x : Nat} {off : Int} (pc' : Nat) (hd : decode X.2.1 pc = .ok (.ifnull off, 3)) (hp : pc + 3 = pc')  (k : AtJ E X Z U d pc' lv st I L G D S) : AtJ E X Z U d pc lv (.ref x :: st) I L G D S := by
  subst hp
  exact ⟨k.1, fun p e Rm s m args below meth c H locs n0 z0 ls hC hR hU hN hP hS hl => lv_ifnull hC.1 hC.2.1 hd (k.2 p e Rm s m args below meth c H locs n0 z0 ls hC hR hU hN hP hS hl)⟩
theorem j_ifnonnullN {off : Int} (pc' : Nat) (hd : decode X.2.1 pc = .ok (.ifnonnull off, 3)) (hp : pc + 3 = pc')  (k : AtJ E X Z U d pc' lv st I L G D S) : AtJ E X Z U d pc lv (.null :: st) I L G D S := by
  subst hp
  exact ⟨k.1, fun p e Rm s m args below meth c H locs n0 z0 ls hC hR hU hN hP hS hl => lv_ifnonnullN hC.1 hC.2.1 hd (k.2 p e Rm s m args below meth c H locs n0 z0 ls hC hR hU hN hP hS hl)⟩
theorem j_ldc {index : Nat} {v : Int32} (pc' : Nat) (hd : decode X.2.1 pc = .ok (.ldc index, 2)) (hp : pc + 2 = pc') (hw : Cond.constant X.1.cls index v ∈ jm_tbl) (k : AtJ E X Z U d pc' lv (.int v :: st) I L G D S) : AtJ E X Z U d pc lv st I L G D S := by
  subst hp
  exact ⟨k.1, fun p e Rm s m args below meth c H locs n0 z0 ls hC hR hU hN hP hS hl => lv_ldc hC.1 hC.2.1 hC.2.2.2.2.2.2.1 (hC.2.2.2.2.2.2.2.1 _ hw) hd (k.2 p e Rm s m args below meth c H locs n0 z0 ls hC hR hU hN hP hS hl)⟩
theorem j_ldcw {index : Nat} {v : Int32} (pc' : Nat) (hd : decode X.2.1 pc = .ok (.ldc_w index, 3)) (hp : pc + 3 = pc') (hw : Cond.constant X.1.cls index v ∈ jm_tbl) (k : AtJ E X Z U d pc' lv (.int v :: st) I L G D S) : AtJ E X Z U d pc lv st I L G D S := by
  subst hp
  exact ⟨k.1, fun p e Rm s m args below meth c H locs n0 z0 ls hC hR hU hN hP hS hl => lv_ldcw hC.1 hC.2.1 hC.2.2.2.2.2.2.1 (hC.2.2.2.2.2.2.2.1 _ hw) hd (k.2 p e Rm s m args below meth c H locs n0 z0 ls hC hR hU hN hP hS hl)⟩
theorem j_ldc2 {index : Nat} {v : Int64} (pc' : Nat) (hd : decode X.2.1 pc = .ok (.ldc2_w index, 3)) (hp : pc + 3 = pc') (hw : Cond.constantLong X.1.cls index v ∈ jm_tbl) (k : AtJ E X Z U d pc' lv (.long v :: st) I L G D S) : AtJ E X Z U d pc lv st I L G D S := by
  subst hp
  exact ⟨k.1, fun p e Rm s m args below meth c H locs n0 z0 ls hC hR hU hN hP hS hl => lv_ldc2 hC.1 hC.2.1 hC.2.2.2.2.2.2.1 (hC.2.2.2.2.2.2.2.1 _ hw) hd (k.2 p e Rm s m args below meth c H locs n0 z0 ls hC hR hU hN hP hS hl)⟩
theorem j_goto {off : Int} (tgt : Nat) (hd : decode X.2.1 pc = .ok (.goto off, 3)) (ht : (pc : Int) + off = (tgt : Int))  (k : AtJ E X Z U d tgt lv st I L G D S) : AtJ E X Z U d pc lv st I L G D S := ⟨k.1, fun p e Rm s m args below meth c H locs n0 z0 ls hC hR hU hN hP hS hl => lv_goto hC.1 hC.2.1 hd ht (k.2 p e Rm s m args below meth c H locs n0 z0 ls hC hR hU hN hP hS hl)⟩
theorem j_ifnonnull {x : Nat} {off : Int} (tgt : Nat) (hd : decode X.2.1 pc = .ok (.ifnonnull off, 3)) (ht : (pc : Int) + off = (tgt : Int))  (k : AtJ E X Z U d tgt lv st I L G D S) : AtJ E X Z U d pc lv (.ref x :: st) I L G D S := ⟨k.1, fun p e Rm s m args below meth c H locs n0 z0 ls hC hR hU hN hP hS hl => lv_ifnonnull hC.1 hC.2.1 hd ht (k.2 p e Rm s m args below meth c H locs n0 z0 ls hC hR hU hN hP hS hl)⟩
theorem j_ifnullN {off : Int} (tgt : Nat) (hd : decode X.2.1 pc = .ok (.ifnull off, 3)) (ht : (pc : Int) + off = (tgt : Int))  (k : AtJ E X Z U d tgt lv st I L G D S) : AtJ E X Z U d pc lv (.null :: st) I L G D S := ⟨k.1, fun p e Rm s m args below meth c H locs n0 z0 ls hC hR hU hN hP hS hl => lv_ifnullN hC.1 hC.2.1 hd ht (k.2 p e Rm s m args below meth c H locs n0 z0 ls hC hR hU hN hP hS hl)⟩
theorem j_tableIn {dflt lo hi : Int} {offs : Array Int} {len : Nat} {x : Int32} {off : Int} (tgt : Nat) (hd : decode X.2.1 pc = .ok (.tableswitch dflt lo hi offs, len)) (ht : (pc : Int) + off = (tgt : Int)) (h1 : ¬ x.toInt < lo) (h2 : ¬ hi < x.toInt) (ho : offs[(x.toInt - lo).toNat]? = some off) (k : AtJ E X Z U d tgt lv st I L G D S) : AtJ E X Z U d pc lv (.int x :: st) I L G D S := ⟨k.1, fun p e Rm s m args below meth c H locs n0 z0 ls hC hR hU hN hP hS hl => lv_tableIn hC.1 hC.2.1 hd h1 h2 ho ht (k.2 p e Rm s m args below meth c H locs n0 z0 ls hC hR hU hN hP hS hl)⟩
theorem j_tableOut {dflt lo hi : Int} {offs : Array Int} {len : Nat} {x : Int32} (tgt : Nat) (hd : decode X.2.1 pc = .ok (.tableswitch dflt lo hi offs, len)) (ht : (pc : Int) + dflt = (tgt : Int)) (h : x.toInt < lo ∨ hi < x.toInt) (k : AtJ E X Z U d tgt lv st I L G D S) : AtJ E X Z U d pc lv (.int x :: st) I L G D S := ⟨k.1, fun p e Rm s m args below meth c H locs n0 z0 ls hC hR hU hN hP hS hl => lv_tableOut hC.1 hC.2.1 hd h ht (k.2 p e Rm s m args below meth c H locs n0 z0 ls hC hR hU hN hP hS hl)⟩
theorem j_lookup {dflt : Int} {ps : Array (Int × Int)} {len : Nat} {x : Int32} {off : Int} (tgt : Nat) (hd : decode X.2.1 pc = .ok (.lookupswitch dflt ps, len)) (ht : (pc : Int) + off = (tgt : Int)) (hp : (ps.toList.zip (ps.toList.drop 1)).all (fun (a, next) => a.1 < next.1) = true) (ho : Op.lookupswitch.offset ps.toList dflt x.toInt = off) (k : AtJ E X Z U d tgt lv st I L G D S) : AtJ E X Z U d pc lv (.int x :: st) I L G D S := ⟨k.1, fun p e Rm s m args below meth c H locs n0 z0 ls hC hR hU hN hP hS hl => lv_lookup hC.1 hC.2.1 hd hp ho ht (k.2 p e Rm s m args below meth c H locs n0 z0 ls hC hR hU hN hP hS hl)⟩
--BRANCHES
theorem j_if_eq {x : Int32} {off : Int} (tgt pc' : Nat) (hd : decode X.2.1 pc = .ok (.ifCond .eq off, 3)) (ht : (pc : Int) + off = (tgt : Int)) (hp : pc + 3 = pc') (kt : x = 0 → AtJ E X Z U d tgt lv st I L G D S) (kf : ¬ x = 0 → AtJ E X Z U d pc' lv st I L G D S) : AtJ E X Z U d pc lv (.int x :: st) I L G D S := by
  subst hp
  refine ⟨?_, fun p e Rm s m args below meth c H locs n0 z0 ls hC hR hU hN hP hS hl => lv_if_eq hC.1 hC.2.1 hd ht (fun h => (kt h).2 p e Rm s m args below meth c H locs n0 z0 ls hC hR hU hN hP hS hl) (fun h => (kf h).2 p e Rm s m args below meth c H locs n0 z0 ls hC hR hU hN hP hS hl)⟩
  by_cases h : x = 0
  · exact (kt h).1
  · exact (kf h).1
theorem j_icmp_eq {x y : Int32} {off : Int} (tgt pc' : Nat) (hd : decode X.2.1 pc = .ok (.if_icmp .eq off, 3)) (ht : (pc : Int) + off = (tgt : Int)) (hp : pc + 3 = pc') (kt : x = y → AtJ E X Z U d tgt lv st I L G D S) (kf : ¬ x = y → AtJ E X Z U d pc' lv st I L G D S) : AtJ E X Z U d pc lv (.int y :: .int x :: st) I L G D S := by
  subst hp
  refine ⟨?_, fun p e Rm s m args below meth c H locs n0 z0 ls hC hR hU hN hP hS hl => lv_icmp_eq hC.1 hC.2.1 hd ht (fun h => (kt h).2 p e Rm s m args below meth c H locs n0 z0 ls hC hR hU hN hP hS hl) (fun h => (kf h).2 p e Rm s m args below meth c H locs n0 z0 ls hC hR hU hN hP hS hl)⟩
  by_cases h : x = y
  · exact (kt h).1
  · exact (kf h).1
theorem j_if_ne {x : Int32} {off : Int} (tgt pc' : Nat) (hd : decode X.2.1 pc = .ok (.ifCond .ne off, 3)) (ht : (pc : Int) + off = (tgt : Int)) (hp : pc + 3 = pc') (kt : ¬ x = 0 → AtJ E X Z U d tgt lv st I L G D S) (kf : x = 0 → AtJ E X Z U d pc' lv st I L G D S) : AtJ E X Z U d pc lv (.int x :: st) I L G D S := by
  subst hp
  refine ⟨?_, fun p e Rm s m args below meth c H locs n0 z0 ls hC hR hU hN hP hS hl => lv_if_ne hC.1 hC.2.1 hd ht (fun h => (kt h).2 p e Rm s m args below meth c H locs n0 z0 ls hC hR hU hN hP hS hl) (fun h => (kf h).2 p e Rm s m args below meth c H locs n0 z0 ls hC hR hU hN hP hS hl)⟩
  by_cases h : x = 0
  · exact (kf h).1
  · exact (kt h).1
theorem j_icmp_ne {x y : Int32} {off : Int} (tgt pc' : Nat) (hd : decode X.2.1 pc = .ok (.if_icmp .ne off, 3)) (ht : (pc : Int) + off = (tgt : Int)) (hp : pc + 3 = pc') (kt : ¬ x = y → AtJ E X Z U d tgt lv st I L G D S) (kf : x = y → AtJ E X Z U d pc' lv st I L G D S) : AtJ E X Z U d pc lv (.int y :: .int x :: st) I L G D S := by
  subst hp
  refine ⟨?_, fun p e Rm s m args below meth c H locs n0 z0 ls hC hR hU hN hP hS hl => lv_icmp_ne hC.1 hC.2.1 hd ht (fun h => (kt h).2 p e Rm s m args below meth c H locs n0 z0 ls hC hR hU hN hP hS hl) (fun h => (kf h).2 p e Rm s m args below meth c H locs n0 z0 ls hC hR hU hN hP hS hl)⟩
  by_cases h : x = y
  · exact (kf h).1
  · exact (kt h).1
theorem j_if_lt {x : Int32} {off : Int} (tgt pc' : Nat) (hd : decode X.2.1 pc = .ok (.ifCond .lt off, 3)) (ht : (pc : Int) + off = (tgt : Int)) (hp : pc + 3 = pc') (kt : x < 0 → AtJ E X Z U d tgt lv st I L G D S) (kf : ¬ x < 0 → AtJ E X Z U d pc' lv st I L G D S) : AtJ E X Z U d pc lv (.int x :: st) I L G D S := by
  subst hp
  refine ⟨?_, fun p e Rm s m args below meth c H locs n0 z0 ls hC hR hU hN hP hS hl => lv_if_lt hC.1 hC.2.1 hd ht (fun h => (kt h).2 p e Rm s m args below meth c H locs n0 z0 ls hC hR hU hN hP hS hl) (fun h => (kf h).2 p e Rm s m args below meth c H locs n0 z0 ls hC hR hU hN hP hS hl)⟩
  by_cases h : x < 0
  · exact (kt h).1
  · exact (kf h).1
theorem j_icmp_lt {x y : Int32} {off : Int} (tgt pc' : Nat) (hd : decode X.2.1 pc = .ok (.if_icmp .lt off, 3)) (ht : (pc : Int) + off = (tgt : Int)) (hp : pc + 3 = pc') (kt : x < y → AtJ E X Z U d tgt lv st I L G D S) (kf : ¬ x < y → AtJ E X Z U d pc' lv st I L G D S) : AtJ E X Z U d pc lv (.int y :: .int x :: st) I L G D S := by
  subst hp
  refine ⟨?_, fun p e Rm s m args below meth c H locs n0 z0 ls hC hR hU hN hP hS hl => lv_icmp_lt hC.1 hC.2.1 hd ht (fun h => (kt h).2 p e Rm s m args below meth c H locs n0 z0 ls hC hR hU hN hP hS hl) (fun h => (kf h).2 p e Rm s m args below meth c H locs n0 z0 ls hC hR hU hN hP hS hl)⟩
  by_cases h : x < y
  · exact (kt h).1
  · exact (kf h).1
theorem j_if_ge {x : Int32} {off : Int} (tgt pc' : Nat) (hd : decode X.2.1 pc = .ok (.ifCond .ge off, 3)) (ht : (pc : Int) + off = (tgt : Int)) (hp : pc + 3 = pc') (kt : 0 ≤ x → AtJ E X Z U d tgt lv st I L G D S) (kf : ¬ 0 ≤ x → AtJ E X Z U d pc' lv st I L G D S) : AtJ E X Z U d pc lv (.int x :: st) I L G D S := by
  subst hp
  refine ⟨?_, fun p e Rm s m args below meth c H locs n0 z0 ls hC hR hU hN hP hS hl => lv_if_ge hC.1 hC.2.1 hd ht (fun h => (kt h).2 p e Rm s m args below meth c H locs n0 z0 ls hC hR hU hN hP hS hl) (fun h => (kf h).2 p e Rm s m args below meth c H locs n0 z0 ls hC hR hU hN hP hS hl)⟩
  by_cases h : 0 ≤ x
  · exact (kt h).1
  · exact (kf h).1
theorem j_icmp_ge {x y : Int32} {off : Int} (tgt pc' : Nat) (hd : decode X.2.1 pc = .ok (.if_icmp .ge off, 3)) (ht : (pc : Int) + off = (tgt : Int)) (hp : pc + 3 = pc') (kt : y ≤ x → AtJ E X Z U d tgt lv st I L G D S) (kf : ¬ y ≤ x → AtJ E X Z U d pc' lv st I L G D S) : AtJ E X Z U d pc lv (.int y :: .int x :: st) I L G D S := by
  subst hp
  refine ⟨?_, fun p e Rm s m args below meth c H locs n0 z0 ls hC hR hU hN hP hS hl => lv_icmp_ge hC.1 hC.2.1 hd ht (fun h => (kt h).2 p e Rm s m args below meth c H locs n0 z0 ls hC hR hU hN hP hS hl) (fun h => (kf h).2 p e Rm s m args below meth c H locs n0 z0 ls hC hR hU hN hP hS hl)⟩
  by_cases h : y ≤ x
  · exact (kt h).1
  · exact (kf h).1
theorem j_if_gt {x : Int32} {off : Int} (tgt pc' : Nat) (hd : decode X.2.1 pc = .ok (.ifCond .gt off, 3)) (ht : (pc : Int) + off = (tgt : Int)) (hp : pc + 3 = pc') (kt : 0 < x → AtJ E X Z U d tgt lv st I L G D S) (kf : ¬ 0 < x → AtJ E X Z U d pc' lv st I L G D S) : AtJ E X Z U d pc lv (.int x :: st) I L G D S := by
  subst hp
  refine ⟨?_, fun p e Rm s m args below meth c H locs n0 z0 ls hC hR hU hN hP hS hl => lv_if_gt hC.1 hC.2.1 hd ht (fun h => (kt h).2 p e Rm s m args below meth c H locs n0 z0 ls hC hR hU hN hP hS hl) (fun h => (kf h).2 p e Rm s m args below meth c H locs n0 z0 ls hC hR hU hN hP hS hl)⟩
  by_cases h : 0 < x
  · exact (kt h).1
  · exact (kf h).1
theorem j_icmp_gt {x y : Int32} {off : Int} (tgt pc' : Nat) (hd : decode X.2.1 pc = .ok (.if_icmp .gt off, 3)) (ht : (pc : Int) + off = (tgt : Int)) (hp : pc + 3 = pc') (kt : y < x → AtJ E X Z U d tgt lv st I L G D S) (kf : ¬ y < x → AtJ E X Z U d pc' lv st I L G D S) : AtJ E X Z U d pc lv (.int y :: .int x :: st) I L G D S := by
  subst hp
  refine ⟨?_, fun p e Rm s m args below meth c H locs n0 z0 ls hC hR hU hN hP hS hl => lv_icmp_gt hC.1 hC.2.1 hd ht (fun h => (kt h).2 p e Rm s m args below meth c H locs n0 z0 ls hC hR hU hN hP hS hl) (fun h => (kf h).2 p e Rm s m args below meth c H locs n0 z0 ls hC hR hU hN hP hS hl)⟩
  by_cases h : y < x
  · exact (kt h).1
  · exact (kf h).1
theorem j_if_le {x : Int32} {off : Int} (tgt pc' : Nat) (hd : decode X.2.1 pc = .ok (.ifCond .le off, 3)) (ht : (pc : Int) + off = (tgt : Int)) (hp : pc + 3 = pc') (kt : x ≤ 0 → AtJ E X Z U d tgt lv st I L G D S) (kf : ¬ x ≤ 0 → AtJ E X Z U d pc' lv st I L G D S) : AtJ E X Z U d pc lv (.int x :: st) I L G D S := by
  subst hp
  refine ⟨?_, fun p e Rm s m args below meth c H locs n0 z0 ls hC hR hU hN hP hS hl => lv_if_le hC.1 hC.2.1 hd ht (fun h => (kt h).2 p e Rm s m args below meth c H locs n0 z0 ls hC hR hU hN hP hS hl) (fun h => (kf h).2 p e Rm s m args below meth c H locs n0 z0 ls hC hR hU hN hP hS hl)⟩
  by_cases h : x ≤ 0
  · exact (kt h).1
  · exact (kf h).1
theorem j_icmp_le {x y : Int32} {off : Int} (tgt pc' : Nat) (hd : decode X.2.1 pc = .ok (.if_icmp .le off, 3)) (ht : (pc : Int) + off = (tgt : Int)) (hp : pc + 3 = pc') (kt : x ≤ y → AtJ E X Z U d tgt lv st I L G D S) (kf : ¬ x ≤ y → AtJ E X Z U d pc' lv st I L G D S) : AtJ E X Z U d pc lv (.int y :: .int x :: st) I L G D S := by
  subst hp
  refine ⟨?_, fun p e Rm s m args below meth c H locs n0 z0 ls hC hR hU hN hP hS hl => lv_icmp_le hC.1 hC.2.1 hd ht (fun h => (kt h).2 p e Rm s m args below meth c H locs n0 z0 ls hC hR hU hN hP hS hl) (fun h => (kf h).2 p e Rm s m args below meth c H locs n0 z0 ls hC hR hU hN hP hS hl)⟩
  by_cases h : x ≤ y
  · exact (kt h).1
  · exact (kf h).1
--ENDBR
-- ===== fields =====
theorem j_getI {a ci N k idx : Nat} {C : String} {T : u_T} {ty : Nat → FieldType} (pc' : Nat) (hd : decode X.2.1 pc = .ok (.getfield idx, 3)) (hp : pc + 3 = pc') (hs : S[a]? = some (ci, N)) (hc : jm_CL ci C T N ty) (hk : k < N) (hlink : Cond.fieldLink X.1.cls idx (T k).1 (T k).2.1 (T k).2.2.1 ∈ jm_tbl) (ht : jm_ty ci k = 0) (kk : AtJ E X Z U d pc' lv (.int (I a k) :: st) I L G D S) : AtJ E X Z U d pc lv (.ref (E.1 + a) :: st) I L G D S := by
  subst hp
  exact ⟨kk.1, fun p e Rm s m args below meth c H locs n0 z0 ls hC hR hU hN hP hS hl => w_get hC hP hs hc hk hlink hd (by rw [jm_val_I ht]; exact kk.2 p e Rm s m args below meth c H locs n0 z0 ls hC hR hU hN hP hS hl)⟩
theorem j_getL {a ci N k idx : Nat} {C : String} {T : u_T} {ty : Nat → FieldType} (pc' : Nat) (hd : decode X.2.1 pc = .ok (.getfield idx, 3)) (hp : pc + 3 = pc') (hs : S[a]? = some (ci, N)) (hc : jm_CL ci C T N ty) (hk : k < N) (hlink : Cond.fieldLink X.1.cls idx (T k).1 (T k).2.1 (T k).2.2.1 ∈ jm_tbl) (ht : jm_ty ci k = 1) (kk : AtJ E X Z U d pc' lv (.long (L a k) :: st) I L G D S) : AtJ E X Z U d pc lv (.ref (E.1 + a) :: st) I L G D S := by
  subst hp
  exact ⟨kk.1, fun p e Rm s m args below meth c H locs n0 z0 ls hC hR hU hN hP hS hl => w_get hC hP hs hc hk hlink hd (by rw [jm_val_L ht]; exact kk.2 p e Rm s m args below meth c H locs n0 z0 ls hC hR hU hN hP hS hl)⟩
theorem j_getZ {a ci N k idx : Nat} {C : String} {T : u_T} {ty : Nat → FieldType} (pc' : Nat) (hd : decode X.2.1 pc = .ok (.getfield idx, 3)) (hp : pc + 3 = pc') (hs : S[a]? = some (ci, N)) (hc : jm_CL ci C T N ty) (hk : k < N) (hlink : Cond.fieldLink X.1.cls idx (T k).1 (T k).2.1 (T k).2.2.1 ∈ jm_tbl) (ht : jm_ty ci k = 3) (kk : AtJ E X Z U d pc' lv (.int (jm_b01 (I a k)) :: st) I L G D S) : AtJ E X Z U d pc lv (.ref (E.1 + a) :: st) I L G D S := by
  subst hp
  exact ⟨kk.1, fun p e Rm s m args below meth c H locs n0 z0 ls hC hR hU hN hP hS hl => w_get hC hP hs hc hk hlink hd (by rw [jm_val_Z ht]; exact kk.2 p e Rm s m args below meth c H locs n0 z0 ls hC hR hU hN hP hS hl)⟩
theorem j_getG {a ci N k idx b : Nat} {C : String} {T : u_T} {ty : Nat → FieldType} (pc' : Nat) (hd : decode X.2.1 pc = .ok (.getfield idx, 3)) (hp : pc + 3 = pc') (hs : S[a]? = some (ci, N)) (hc : jm_CL ci C T N ty) (hk : k < N) (hlink : Cond.fieldLink X.1.cls idx (T k).1 (T k).2.1 (T k).2.2.1 ∈ jm_tbl) (ht : jm_ty ci k = 2) (hg : G a k = some b) (kk : AtJ E X Z U d pc' lv (.ref (E.1 + b) :: st) I L G D S) : AtJ E X Z U d pc lv (.ref (E.1 + a) :: st) I L G D S := by
  subst hp
  exact ⟨kk.1, fun p e Rm s m args below meth c H locs n0 z0 ls hC hR hU hN hP hS hl => w_get hC hP hs hc hk hlink hd (by rw [jm_val_G ht, hg]; exact kk.2 p e Rm s m args below meth c H locs n0 z0 ls hC hR hU hN hP hS hl)⟩
theorem j_getGn {a ci N k idx : Nat} {C : String} {T : u_T} {ty : Nat → FieldType} (pc' : Nat) (hd : decode X.2.1 pc = .ok (.getfield idx, 3)) (hp : pc + 3 = pc') (hs : S[a]? = some (ci, N)) (hc : jm_CL ci C T N ty) (hk : k < N) (hlink : Cond.fieldLink X.1.cls idx (T k).1 (T k).2.1 (T k).2.2.1 ∈ jm_tbl) (ht : jm_ty ci k = 2) (hg : G a k = none) (kk : AtJ E X Z U d pc' lv (.null :: st) I L G D S) : AtJ E X Z U d pc lv (.ref (E.1 + a) :: st) I L G D S := by
  subst hp
  exact ⟨kk.1, fun p e Rm s m args below meth c H locs n0 z0 ls hC hR hU hN hP hS hl => w_get hC hP hs hc hk hlink hd (by rw [jm_val_G ht, hg]; exact kk.2 p e Rm s m args below meth c H locs n0 z0 ls hC hR hU hN hP hS hl)⟩
--NEST-GET
theorem j_getD {a ci N k idx b : Nat} {C : String} {T : u_T} {ty : Nat → FieldType} (pc' : Nat) (hd : decode X.2.1 pc = .ok (.getfield idx, 3)) (hp : pc + 3 = pc') (hs : S[a]? = some (ci, N)) (hc : jm_CL ci C T N ty) (hk : k < N) (hlink : Cond.fieldLink X.1.cls idx (T k).1 (T k).2.1 (T k).2.2.1 ∈ jm_tbl) (ht : jm_ty ci k = 4) (hg : D a k = some b) (kk : AtJ E X Z U d pc' lv (.ref (E.1 + b) :: st) I L G D S) : AtJ E X Z U d pc lv (.ref (E.1 + a) :: st) I L G D S := by
  subst hp
  exact ⟨kk.1, fun p e Rm s m args below meth c H locs n0 z0 ls hC hR hU hN hP hS hl => w_get hC hP hs hc hk hlink hd (by rw [jm_val_D ht, hg]; exact kk.2 p e Rm s m args below meth c H locs n0 z0 ls hC hR hU hN hP hS hl)⟩
theorem j_getDn {a ci N k idx : Nat} {C : String} {T : u_T} {ty : Nat → FieldType} (pc' : Nat) (hd : decode X.2.1 pc = .ok (.getfield idx, 3)) (hp : pc + 3 = pc') (hs : S[a]? = some (ci, N)) (hc : jm_CL ci C T N ty) (hk : k < N) (hlink : Cond.fieldLink X.1.cls idx (T k).1 (T k).2.1 (T k).2.2.1 ∈ jm_tbl) (ht : jm_ty ci k = 4) (hg : D a k = none) (kk : AtJ E X Z U d pc' lv (.null :: st) I L G D S) : AtJ E X Z U d pc lv (.ref (E.1 + a) :: st) I L G D S := by
  subst hp
  exact ⟨kk.1, fun p e Rm s m args below meth c H locs n0 z0 ls hC hR hU hN hP hS hl => w_get hC hP hs hc hk hlink hd (by rw [jm_val_D ht, hg]; exact kk.2 p e Rm s m args below meth c H locs n0 z0 ls hC hR hU hN hP hS hl)⟩
theorem j_putD {a b ci N k idx : Nat} {C : String} {T : u_T} {ty : Nat → FieldType} (pc' : Nat) (hd : decode X.2.1 pc = .ok (.putfield idx, 3)) (hp : pc + 3 = pc') (hs : S[a]? = some (ci, N)) (hc : jm_CL ci C T N ty) (hk : k < N) (hlink : Cond.fieldLink X.1.cls idx (T k).1 (T k).2.1 (T k).2.2.1 ∈ jm_tbl) (ht : jm_ty ci k = 4) (hf : (T k).2.2.2 = false) (hn : ∀ z, narrow (ty k) (.ref z) = .ref z) (hfit : ∀ z, fits (ty k) (.ref z) = true) (kk : AtJ E X Z U d pc' lv st I L G (j_up D a k (some b)) S) : AtJ E X Z U d pc lv (.ref (E.1 + b) :: .ref (E.1 + a) :: st) I L G D S := by
  subst hp
  refine ⟨kk.1, fun p e Rm s m args below meth c H locs n0 z0 ls hC hR hU hN hP hS hl => w_put hC hP hS hs hc hk hlink hf (hn _) (hfit _) hd fun H1 locs1 hz oq hO hS1 => kk.2 p e Rm s m args below meth c H1 locs1 n0 z0 ls hC hR hU hN (jm_rep_set hP hs hz oq ⟨fun _ => ⟨_, hc.2.1, rfl, hO.to (fun j _ => jm_upd_D (by rw [jm_val_D ht, j_up_same]; rfl) j)⟩, fun h1 => absurd hc.1 (by show ¬ ci < 20; simp at h1; omega)⟩ (fun kd a' j h => jm_oth_D kd a' j h)) hS1 hl⟩
theorem j_putI {a ci N k idx : Nat} {x : Int32} {C : String} {T : u_T} {ty : Nat → FieldType} (pc' : Nat) (hd : decode X.2.1 pc = .ok (.putfield idx, 3)) (hp : pc + 3 = pc') (hs : S[a]? = some (ci, N)) (hc : jm_CL ci C T N ty) (hk : k < N) (hlink : Cond.fieldLink X.1.cls idx (T k).1 (T k).2.1 (T k).2.2.1 ∈ jm_tbl) (ht : jm_ty ci k = 0) (hf : (T k).2.2.2 = false) (hty : ty k = .int) (kk : AtJ E X Z U d pc' lv st (j_up I a k x) L G D S) : AtJ E X Z U d pc lv (.int x :: .ref (E.1 + a) :: st) I L G D S := by
  subst hp
  refine ⟨kk.1, fun p e Rm s m args below meth c H locs n0 z0 ls hC hR hU hN hP hS hl => w_put hC hP hS hs hc hk hlink hf (by rw [hty]; rfl) (by rw [hty]; rfl) hd fun H1 locs1 hz oq hO hS1 => kk.2 p e Rm s m args below meth c H1 locs1 n0 z0 ls hC hR hU hN (jm_rep_set hP hs hz oq ⟨fun _ => ⟨_, hc.2.1, rfl, hO.to (fun j _ => jm_upd_I (by rw [jm_val_I ht, j_up_same]) j)⟩, fun h1 => absurd hc.1 (by show ¬ ci < 20; simp at h1; omega)⟩ (fun kd a' j h => jm_oth_I kd a' j h)) hS1 hl⟩
theorem j_putZ {a ci N k idx : Nat} {x : Int32} {C : String} {T : u_T} {ty : Nat → FieldType} (pc' : Nat) (hd : decode X.2.1 pc = .ok (.putfield idx, 3)) (hp : pc + 3 = pc') (hs : S[a]? = some (ci, N)) (hc : jm_CL ci C T N ty) (hk : k < N) (hlink : Cond.fieldLink X.1.cls idx (T k).1 (T k).2.1 (T k).2.2.1 ∈ jm_tbl) (ht : jm_ty ci k = 3) (hf : (T k).2.2.2 = false) (hty : ty k = .boolean) (hx : jm_b01 x = x) (kk : AtJ E X Z U d pc' lv st (j_up I a k x) L G D S) : AtJ E X Z U d pc lv (.int x :: .ref (E.1 + a) :: st) I L G D S := by
  subst hp
  refine ⟨kk.1, fun p e Rm s m args below meth c H locs n0 z0 ls hC hR hU hN hP hS hl => w_put hC hP hS hs hc hk hlink hf (by rw [hty]; exact jm_nar hx) (by rw [hty]; exact jm_fit hx) hd fun H1 locs1 hz oq hO hS1 => kk.2 p e Rm s m args below meth c H1 locs1 n0 z0 ls hC hR hU hN (jm_rep_set hP hs hz oq ⟨fun _ => ⟨_, hc.2.1, rfl, hO.to (fun j _ => jm_upd_I (by rw [jm_val_Z ht, j_up_same, hx]) j)⟩, fun h1 => absurd hc.1 (by show ¬ ci < 20; simp at h1; omega)⟩ (fun kd a' j h => jm_oth_I kd a' j h)) hS1 hl⟩
theorem j_putL {a ci N k idx : Nat} {x : Int64} {C : String} {T : u_T} {ty : Nat → FieldType} (pc' : Nat) (hd : decode X.2.1 pc = .ok (.putfield idx, 3)) (hp : pc + 3 = pc') (hs : S[a]? = some (ci, N)) (hc : jm_CL ci C T N ty) (hk : k < N) (hlink : Cond.fieldLink X.1.cls idx (T k).1 (T k).2.1 (T k).2.2.1 ∈ jm_tbl) (ht : jm_ty ci k = 1) (hf : (T k).2.2.2 = false) (hty : ty k = .long) (kk : AtJ E X Z U d pc' lv st I (j_up L a k x) G D S) : AtJ E X Z U d pc lv (.long x :: .ref (E.1 + a) :: st) I L G D S := by
  subst hp
  refine ⟨kk.1, fun p e Rm s m args below meth c H locs n0 z0 ls hC hR hU hN hP hS hl => w_put hC hP hS hs hc hk hlink hf (by rw [hty]; rfl) (by rw [hty]; rfl) hd fun H1 locs1 hz oq hO hS1 => kk.2 p e Rm s m args below meth c H1 locs1 n0 z0 ls hC hR hU hN (jm_rep_set hP hs hz oq ⟨fun _ => ⟨_, hc.2.1, rfl, hO.to (fun j _ => jm_upd_L (by rw [jm_val_L ht, j_up_same]) j)⟩, fun h1 => absurd hc.1 (by show ¬ ci < 20; simp at h1; omega)⟩ (fun kd a' j h => jm_oth_L kd a' j h)) hS1 hl⟩
theorem j_putG {a b ci N k idx : Nat} {C : String} {T : u_T} {ty : Nat → FieldType} (pc' : Nat) (hd : decode X.2.1 pc = .ok (.putfield idx, 3)) (hp : pc + 3 = pc') (hs : S[a]? = some (ci, N)) (hc : jm_CL ci C T N ty) (hk : k < N) (hlink : Cond.fieldLink X.1.cls idx (T k).1 (T k).2.1 (T k).2.2.1 ∈ jm_tbl) (ht : jm_ty ci k = 2) (hf : (T k).2.2.2 = false) (hn : ∀ z, narrow (ty k) (.ref z) = .ref z) (hfit : ∀ z, fits (ty k) (.ref z) = true) (kk : AtJ E X Z U d pc' lv st I L (j_up G a k (some b)) D S) : AtJ E X Z U d pc lv (.ref (E.1 + b) :: .ref (E.1 + a) :: st) I L G D S := by
  subst hp
  refine ⟨kk.1, fun p e Rm s m args below meth c H locs n0 z0 ls hC hR hU hN hP hS hl => w_put hC hP hS hs hc hk hlink hf (hn _) (hfit _) hd fun H1 locs1 hz oq hO hS1 => kk.2 p e Rm s m args below meth c H1 locs1 n0 z0 ls hC hR hU hN (jm_rep_set hP hs hz oq ⟨fun _ => ⟨_, hc.2.1, rfl, hO.to (fun j _ => jm_upd_G (by rw [jm_val_G ht, j_up_same]; rfl) j)⟩, fun h1 => absurd hc.1 (by show ¬ ci < 20; simp at h1; omega)⟩ (fun kd a' j h => jm_oth_G kd a' j h)) hS1 hl⟩
theorem j_putF {a b ci N k idx : Nat} {C : String} {T : u_T} {ty : Nat → FieldType} (pc' : Nat) (hd : decode X.2.1 pc = .ok (.putfield idx, 3)) (hp : pc + 3 = pc') (hs : S[a]? = some (ci, N)) (hc : jm_CL ci C T N ty) (hk : k < N) (hlink : Cond.fieldLink X.1.cls idx (T k).1 (T k).2.1 (T k).2.2.1 ∈ jm_tbl) (ht : jm_ty ci k = 2) (hf : (T k).2.2.2 = true) (hi : X.1.name = "<init>") (hdc : (T k).1 = X.1.cls) (hn : ∀ z, narrow (ty k) (.ref z) = .ref z) (hfit : ∀ z, fits (ty k) (.ref z) = true) (kk : AtJ E X Z U d pc' lv st I L (j_up G a k (some b)) D S) : AtJ E X Z U d pc lv (.ref (E.1 + b) :: .ref (E.1 + a) :: st) I L G D S := by
  subst hp
  refine ⟨kk.1, fun p e Rm s m args below meth c H locs n0 z0 ls hC hR hU hN hP hS hl => w_putF hC hP hS hs hc hk hlink hf hi hdc (hn _) (hfit _) hd fun H1 locs1 hz oq hO hS1 => kk.2 p e Rm s m args below meth c H1 locs1 n0 z0 ls hC hR hU hN (jm_rep_set hP hs hz oq ⟨fun _ => ⟨_, hc.2.1, rfl, hO.to (fun j _ => jm_upd_G (by rw [jm_val_G ht, j_up_same]; rfl) j)⟩, fun h1 => absurd hc.1 (by show ¬ ci < 20; simp at h1; omega)⟩ (fun kd a' j h => jm_oth_G kd a' j h)) hS1 hl⟩
--NEST-PUT
theorem j_getIN {a ci N k idx : Nat} {C host : String} {T : u_T} {ty : Nat → FieldType} (pc' : Nat) (hd : decode X.2.1 pc = .ok (.getfield idx, 3)) (hp : pc + 3 = pc') (hs : S[a]? = some (ci, N)) (hc : jm_CL ci C T N ty) (hk : k < N) (hlink : Cond.fieldLinkNest X.1.cls idx (T k).1 (T k).2.1 (T k).2.2.1 host ∈ lw_tbl) (ht : jm_ty ci k = 0) (kk : AtJ E X Z U d pc' lv (.int (I a k) :: st) I L G D S) : AtJ E X Z U d pc lv (.ref (E.1 + a) :: st) I L G D S := by
  subst hp
  exact ⟨kk.1, fun p e Rm s m args below meth c H locs n0 z0 ls hC hR hU hN hP hS hl => w_getN hC hP hs hc hk hlink hd (by rw [jm_val_I ht]; exact kk.2 p e Rm s m args below meth c H locs n0 z0 ls hC hR hU hN hP hS hl)⟩
theorem j_getLN {a ci N k idx : Nat} {C host : String} {T : u_T} {ty : Nat → FieldType} (pc' : Nat) (hd : decode X.2.1 pc = .ok (.getfield idx, 3)) (hp : pc + 3 = pc') (hs : S[a]? = some (ci, N)) (hc : jm_CL ci C T N ty) (hk : k < N) (hlink : Cond.fieldLinkNest X.1.cls idx (T k).1 (T k).2.1 (T k).2.2.1 host ∈ lw_tbl) (ht : jm_ty ci k = 1) (kk : AtJ E X Z U d pc' lv (.long (L a k) :: st) I L G D S) : AtJ E X Z U d pc lv (.ref (E.1 + a) :: st) I L G D S := by
  subst hp
  exact ⟨kk.1, fun p e Rm s m args below meth c H locs n0 z0 ls hC hR hU hN hP hS hl => w_getN hC hP hs hc hk hlink hd (by rw [jm_val_L ht]; exact kk.2 p e Rm s m args below meth c H locs n0 z0 ls hC hR hU hN hP hS hl)⟩
theorem j_getZN {a ci N k idx : Nat} {C host : String} {T : u_T} {ty : Nat → FieldType} (pc' : Nat) (hd : decode X.2.1 pc = .ok (.getfield idx, 3)) (hp : pc + 3 = pc') (hs : S[a]? = some (ci, N)) (hc : jm_CL ci C T N ty) (hk : k < N) (hlink : Cond.fieldLinkNest X.1.cls idx (T k).1 (T k).2.1 (T k).2.2.1 host ∈ lw_tbl) (ht : jm_ty ci k = 3) (kk : AtJ E X Z U d pc' lv (.int (jm_b01 (I a k)) :: st) I L G D S) : AtJ E X Z U d pc lv (.ref (E.1 + a) :: st) I L G D S := by
  subst hp
  exact ⟨kk.1, fun p e Rm s m args below meth c H locs n0 z0 ls hC hR hU hN hP hS hl => w_getN hC hP hs hc hk hlink hd (by rw [jm_val_Z ht]; exact kk.2 p e Rm s m args below meth c H locs n0 z0 ls hC hR hU hN hP hS hl)⟩
theorem j_getGN {a ci N k idx b : Nat} {C host : String} {T : u_T} {ty : Nat → FieldType} (pc' : Nat) (hd : decode X.2.1 pc = .ok (.getfield idx, 3)) (hp : pc + 3 = pc') (hs : S[a]? = some (ci, N)) (hc : jm_CL ci C T N ty) (hk : k < N) (hlink : Cond.fieldLinkNest X.1.cls idx (T k).1 (T k).2.1 (T k).2.2.1 host ∈ lw_tbl) (ht : jm_ty ci k = 2) (hg : G a k = some b) (kk : AtJ E X Z U d pc' lv (.ref (E.1 + b) :: st) I L G D S) : AtJ E X Z U d pc lv (.ref (E.1 + a) :: st) I L G D S := by
  subst hp
  exact ⟨kk.1, fun p e Rm s m args below meth c H locs n0 z0 ls hC hR hU hN hP hS hl => w_getN hC hP hs hc hk hlink hd (by rw [jm_val_G ht, hg]; exact kk.2 p e Rm s m args below meth c H locs n0 z0 ls hC hR hU hN hP hS hl)⟩
theorem j_getGnN {a ci N k idx : Nat} {C host : String} {T : u_T} {ty : Nat → FieldType} (pc' : Nat) (hd : decode X.2.1 pc = .ok (.getfield idx, 3)) (hp : pc + 3 = pc') (hs : S[a]? = some (ci, N)) (hc : jm_CL ci C T N ty) (hk : k < N) (hlink : Cond.fieldLinkNest X.1.cls idx (T k).1 (T k).2.1 (T k).2.2.1 host ∈ lw_tbl) (ht : jm_ty ci k = 2) (hg : G a k = none) (kk : AtJ E X Z U d pc' lv (.null :: st) I L G D S) : AtJ E X Z U d pc lv (.ref (E.1 + a) :: st) I L G D S := by
  subst hp
  exact ⟨kk.1, fun p e Rm s m args below meth c H locs n0 z0 ls hC hR hU hN hP hS hl => w_getN hC hP hs hc hk hlink hd (by rw [jm_val_G ht, hg]; exact kk.2 p e Rm s m args below meth c H locs n0 z0 ls hC hR hU hN hP hS hl)⟩
theorem j_getDN {a ci N k idx b : Nat} {C host : String} {T : u_T} {ty : Nat → FieldType} (pc' : Nat) (hd : decode X.2.1 pc = .ok (.getfield idx, 3)) (hp : pc + 3 = pc') (hs : S[a]? = some (ci, N)) (hc : jm_CL ci C T N ty) (hk : k < N) (hlink : Cond.fieldLinkNest X.1.cls idx (T k).1 (T k).2.1 (T k).2.2.1 host ∈ lw_tbl) (ht : jm_ty ci k = 4) (hg : D a k = some b) (kk : AtJ E X Z U d pc' lv (.ref (E.1 + b) :: st) I L G D S) : AtJ E X Z U d pc lv (.ref (E.1 + a) :: st) I L G D S := by
  subst hp
  exact ⟨kk.1, fun p e Rm s m args below meth c H locs n0 z0 ls hC hR hU hN hP hS hl => w_getN hC hP hs hc hk hlink hd (by rw [jm_val_D ht, hg]; exact kk.2 p e Rm s m args below meth c H locs n0 z0 ls hC hR hU hN hP hS hl)⟩
theorem j_getDnN {a ci N k idx : Nat} {C host : String} {T : u_T} {ty : Nat → FieldType} (pc' : Nat) (hd : decode X.2.1 pc = .ok (.getfield idx, 3)) (hp : pc + 3 = pc') (hs : S[a]? = some (ci, N)) (hc : jm_CL ci C T N ty) (hk : k < N) (hlink : Cond.fieldLinkNest X.1.cls idx (T k).1 (T k).2.1 (T k).2.2.1 host ∈ lw_tbl) (ht : jm_ty ci k = 4) (hg : D a k = none) (kk : AtJ E X Z U d pc' lv (.null :: st) I L G D S) : AtJ E X Z U d pc lv (.ref (E.1 + a) :: st) I L G D S := by
  subst hp
  exact ⟨kk.1, fun p e Rm s m args below meth c H locs n0 z0 ls hC hR hU hN hP hS hl => w_getN hC hP hs hc hk hlink hd (by rw [jm_val_D ht, hg]; exact kk.2 p e Rm s m args below meth c H locs n0 z0 ls hC hR hU hN hP hS hl)⟩
theorem j_putIN {a ci N k idx : Nat} {x : Int32} {C host : String} {T : u_T} {ty : Nat → FieldType} (pc' : Nat) (hd : decode X.2.1 pc = .ok (.putfield idx, 3)) (hp : pc + 3 = pc') (hs : S[a]? = some (ci, N)) (hc : jm_CL ci C T N ty) (hk : k < N) (hlink : Cond.fieldLinkNest X.1.cls idx (T k).1 (T k).2.1 (T k).2.2.1 host ∈ lw_tbl) (ht : jm_ty ci k = 0) (hf : (T k).2.2.2 = false) (hty : ty k = .int) (kk : AtJ E X Z U d pc' lv st (j_up I a k x) L G D S) : AtJ E X Z U d pc lv (.int x :: .ref (E.1 + a) :: st) I L G D S := by
  subst hp
  refine ⟨kk.1, fun p e Rm s m args below meth c H locs n0 z0 ls hC hR hU hN hP hS hl => w_putN hC hP hS hs hc hk hlink hf (by rw [hty]; rfl) (by rw [hty]; rfl) hd fun H1 locs1 hz oq hO hS1 => kk.2 p e Rm s m args below meth c H1 locs1 n0 z0 ls hC hR hU hN (jm_rep_set hP hs hz oq ⟨fun _ => ⟨_, hc.2.1, rfl, hO.to (fun j _ => jm_upd_I (by rw [jm_val_I ht, j_up_same]) j)⟩, fun h1 => absurd hc.1 (by show ¬ ci < 20; simp at h1; omega)⟩ (fun kd a' j h => jm_oth_I kd a' j h)) hS1 hl⟩
theorem j_putZN {a ci N k idx : Nat} {x : Int32} {C host : String} {T : u_T} {ty : Nat → FieldType} (pc' : Nat) (hd : decode X.2.1 pc = .ok (.putfield idx, 3)) (hp : pc + 3 = pc') (hs : S[a]? = some (ci, N)) (hc : jm_CL ci C T N ty) (hk : k < N) (hlink : Cond.fieldLinkNest X.1.cls idx (T k).1 (T k).2.1 (T k).2.2.1 host ∈ lw_tbl) (ht : jm_ty ci k = 3) (hf : (T k).2.2.2 = false) (hty : ty k = .boolean) (hx : jm_b01 x = x) (kk : AtJ E X Z U d pc' lv st (j_up I a k x) L G D S) : AtJ E X Z U d pc lv (.int x :: .ref (E.1 + a) :: st) I L G D S := by
  subst hp
  refine ⟨kk.1, fun p e Rm s m args below meth c H locs n0 z0 ls hC hR hU hN hP hS hl => w_putN hC hP hS hs hc hk hlink hf (by rw [hty]; exact jm_nar hx) (by rw [hty]; exact jm_fit hx) hd fun H1 locs1 hz oq hO hS1 => kk.2 p e Rm s m args below meth c H1 locs1 n0 z0 ls hC hR hU hN (jm_rep_set hP hs hz oq ⟨fun _ => ⟨_, hc.2.1, rfl, hO.to (fun j _ => jm_upd_I (by rw [jm_val_Z ht, j_up_same, hx]) j)⟩, fun h1 => absurd hc.1 (by show ¬ ci < 20; simp at h1; omega)⟩ (fun kd a' j h => jm_oth_I kd a' j h)) hS1 hl⟩
theorem j_putLN {a ci N k idx : Nat} {x : Int64} {C host : String} {T : u_T} {ty : Nat → FieldType} (pc' : Nat) (hd : decode X.2.1 pc = .ok (.putfield idx, 3)) (hp : pc + 3 = pc') (hs : S[a]? = some (ci, N)) (hc : jm_CL ci C T N ty) (hk : k < N) (hlink : Cond.fieldLinkNest X.1.cls idx (T k).1 (T k).2.1 (T k).2.2.1 host ∈ lw_tbl) (ht : jm_ty ci k = 1) (hf : (T k).2.2.2 = false) (hty : ty k = .long) (kk : AtJ E X Z U d pc' lv st I (j_up L a k x) G D S) : AtJ E X Z U d pc lv (.long x :: .ref (E.1 + a) :: st) I L G D S := by
  subst hp
  refine ⟨kk.1, fun p e Rm s m args below meth c H locs n0 z0 ls hC hR hU hN hP hS hl => w_putN hC hP hS hs hc hk hlink hf (by rw [hty]; rfl) (by rw [hty]; rfl) hd fun H1 locs1 hz oq hO hS1 => kk.2 p e Rm s m args below meth c H1 locs1 n0 z0 ls hC hR hU hN (jm_rep_set hP hs hz oq ⟨fun _ => ⟨_, hc.2.1, rfl, hO.to (fun j _ => jm_upd_L (by rw [jm_val_L ht, j_up_same]) j)⟩, fun h1 => absurd hc.1 (by show ¬ ci < 20; simp at h1; omega)⟩ (fun kd a' j h => jm_oth_L kd a' j h)) hS1 hl⟩
theorem j_putDN {a b ci N k idx : Nat} {C host : String} {T : u_T} {ty : Nat → FieldType} (pc' : Nat) (hd : decode X.2.1 pc = .ok (.putfield idx, 3)) (hp : pc + 3 = pc') (hs : S[a]? = some (ci, N)) (hc : jm_CL ci C T N ty) (hk : k < N) (hlink : Cond.fieldLinkNest X.1.cls idx (T k).1 (T k).2.1 (T k).2.2.1 host ∈ lw_tbl) (ht : jm_ty ci k = 4) (hf : (T k).2.2.2 = false) (hn : ∀ z, narrow (ty k) (.ref z) = .ref z) (hfit : ∀ z, fits (ty k) (.ref z) = true) (kk : AtJ E X Z U d pc' lv st I L G (j_up D a k (some b)) S) : AtJ E X Z U d pc lv (.ref (E.1 + b) :: .ref (E.1 + a) :: st) I L G D S := by
  subst hp
  refine ⟨kk.1, fun p e Rm s m args below meth c H locs n0 z0 ls hC hR hU hN hP hS hl => w_putN hC hP hS hs hc hk hlink hf (hn _) (hfit _) hd fun H1 locs1 hz oq hO hS1 => kk.2 p e Rm s m args below meth c H1 locs1 n0 z0 ls hC hR hU hN (jm_rep_set hP hs hz oq ⟨fun _ => ⟨_, hc.2.1, rfl, hO.to (fun j _ => jm_upd_D (by rw [jm_val_D ht, j_up_same]; rfl) j)⟩, fun h1 => absurd hc.1 (by show ¬ ci < 20; simp at h1; omega)⟩ (fun kd a' j h => jm_oth_D kd a' j h)) hS1 hl⟩
-- ===== arrays =====
theorem j_iald {a n : Nat} {i : Int32} (pc' : Nat) (hd : decode X.2.1 pc = .ok (.iaload, 1)) (hp : pc + 1 = pc') (hs : S[a]? = some (20, n)) (hin : vp_in i n) (kk : AtJ E X Z U d pc' lv (.int (I a i.toNatClampNeg) :: st) I L G D S) : AtJ E X Z U d pc lv (.int i :: .ref (E.1 + a) :: st) I L G D S := by
  subst hp
  exact ⟨kk.1, fun p e Rm s m args below meth c H locs n0 z0 ls hC hR hU hN hP hS hl => W.iald hC.1 hC.2.1 (jm_ar hP hs (by decide) (by decide)) (jm_aty hC 0 rfl n _) (fun q => by cases q) (jm_in' hin) (by rw [arrV_read _ _ (jm_lt hin)]; rfl) rfl rfl hd (kk.2 p e Rm s m args below meth c H locs n0 z0 ls hC hR hU hN hP hS hl)⟩
theorem j_zald {a n : Nat} {i : Int32} (pc' : Nat) (hd : decode X.2.1 pc = .ok (.baload, 1)) (hp : pc + 1 = pc') (hs : S[a]? = some (21, n)) (hin : vp_in i n) (kk : AtJ E X Z U d pc' lv (.int (jm_b01 (I a i.toNatClampNeg)) :: st) I L G D S) : AtJ E X Z U d pc lv (.int i :: .ref (E.1 + a) :: st) I L G D S := by
  subst hp
  exact ⟨kk.1, fun p e Rm s m args below meth c H locs n0 z0 ls hC hR hU hN hP hS hl => W.zald hC.1 hC.2.1 (jm_ar hP hs (by decide) (by decide)) (jm_aty hC 1 rfl n _) (fun q => by cases q) (jm_in' hin) (by rw [arrV_read _ _ (jm_lt hin)]; rfl) rfl rfl hd (kk.2 p e Rm s m args below meth c H locs n0 z0 ls hC hR hU hN hP hS hl)⟩
theorem j_bald {a n : Nat} {i : Int32} (pc' : Nat) (hd : decode X.2.1 pc = .ok (.baload, 1)) (hp : pc + 1 = pc') (hs : S[a]? = some (22, n)) (hin : vp_in i n) (kk : AtJ E X Z U d pc' lv (.int (I a i.toNatClampNeg) :: st) I L G D S) : AtJ E X Z U d pc lv (.int i :: .ref (E.1 + a) :: st) I L G D S := by
  subst hp
  exact ⟨kk.1, fun p e Rm s m args below meth c H locs n0 z0 ls hC hR hU hN hP hS hl => W.bald hC.1 hC.2.1 (jm_ar hP hs (by decide) (by decide)) (jm_aty hC 2 rfl n _) (fun q => by cases q) (jm_in' hin) (by rw [arrV_read _ _ (jm_lt hin)]; rfl) rfl rfl hd (kk.2 p e Rm s m args below meth c H locs n0 z0 ls hC hR hU hN hP hS hl)⟩
theorem j_lald {a n : Nat} {i : Int32} (pc' : Nat) (hd : decode X.2.1 pc = .ok (.laload, 1)) (hp : pc + 1 = pc') (hs : S[a]? = some (23, n)) (hin : vp_in i n) (kk : AtJ E X Z U d pc' lv (.long (L a i.toNatClampNeg) :: st) I L G D S) : AtJ E X Z U d pc lv (.int i :: .ref (E.1 + a) :: st) I L G D S := by
  subst hp
  exact ⟨kk.1, fun p e Rm s m args below meth c H locs n0 z0 ls hC hR hU hN hP hS hl => W.lald hC.1 hC.2.1 (jm_ar hP hs (by decide) (by decide)) (jm_aty hC 3 rfl n _) (fun q => by cases q) (jm_in' hin) (by rw [arrV_read _ _ (jm_lt hin)]; rfl) rfl rfl hd (kk.2 p e Rm s m args below meth c H locs n0 z0 ls hC hR hU hN hP hS hl)⟩
theorem jm_set {cA : ClassId} {n : Nat} {f : Nat → Value} {k : Nat} {v : Value} {H1 : Heap} {q : Nat} {g : Nat → Value} (e : H1[q]? = some ((arrV cA n f).setSlot k v)) (h : ∀ j, updV f k v j = g j) : H1[q]? = some (arrV cA n g) := by
  rw [e, arrV_store]
  congr 2
  funext j
  exact h j
theorem j_iast {a n : Nat} {i x : Int32} (pc' : Nat) (hd : decode X.2.1 pc = .ok (.iastore, 1)) (hp : pc + 1 = pc') (hs : S[a]? = some (20, n)) (hin : vp_in i n) (kk : AtJ E X Z U d pc' lv st (j_up I a i.toNatClampNeg x) L G D S) : AtJ E X Z U d pc lv (.int x :: .int i :: .ref (E.1 + a) :: st) I L G D S := by
  subst hp
  exact ⟨kk.1, fun p e Rm s m args below meth c H locs n0 z0 ls hC hR hU hN hP hS hl => W.iast hC.1 hC.2.1 (jm_ar hP hs (by decide) (by decide)) (jm_aty hC 0 rfl n _) (fun q => by cases q) (jm_in' hin) rfl rfl hd fun H1 e1 z1 oq => kk.2 p e Rm s m args below meth c H1 _ n0 z0 ls hC hR hU hN (jm_rep_set hP hs z1 oq ⟨fun h1 => absurd h1 (by simp), fun _ _ => jm_set e1 (fun j => jm_upd_I (by rw [jm_val_I rfl, j_up_same]) j)⟩ (fun kd a' j h => jm_oth_I kd a' j h)) (hS.put z1 oq (by show E.1 ≤ _; omega)) hl⟩
theorem j_zast {a n : Nat} {i x : Int32} (pc' : Nat) (hd : decode X.2.1 pc = .ok (.bastore, 1)) (hp : pc + 1 = pc') (hs : S[a]? = some (21, n)) (hin : vp_in i n) (hx : jm_b01 x = x) (kk : AtJ E X Z U d pc' lv st (j_up I a i.toNatClampNeg x) L G D S) : AtJ E X Z U d pc lv (.int x :: .int i :: .ref (E.1 + a) :: st) I L G D S := by
  subst hp
  exact ⟨kk.1, fun p e Rm s m args below meth c H locs n0 z0 ls hC hR hU hN hP hS hl => W.zast hC.1 hC.2.1 (jm_ar hP hs (by decide) (by decide)) (jm_aty hC 1 rfl n _) (fun q => by cases q) (jm_in' hin) rfl rfl hd fun H1 e1 z1 oq => kk.2 p e Rm s m args below meth c H1 _ n0 z0 ls hC hR hU hN (jm_rep_set hP hs z1 oq ⟨fun h1 => absurd h1 (by simp), fun _ _ => jm_set e1 (fun j => jm_upd_I (by rw [jm_val_Z rfl, j_up_same, hx, jm_nar hx]) j)⟩ (fun kd a' j h => jm_oth_I kd a' j h)) (hS.put z1 oq (by show E.1 ≤ _; omega)) hl⟩
theorem j_bast {a n : Nat} {i x : Int32} (pc' : Nat) (hd : decode X.2.1 pc = .ok (.bastore, 1)) (hp : pc + 1 = pc') (hs : S[a]? = some (22, n)) (hin : vp_in i n) (kk : AtJ E X Z U d pc' lv st (j_up I a i.toNatClampNeg x.toInt8.toInt32) L G D S) : AtJ E X Z U d pc lv (.int x :: .int i :: .ref (E.1 + a) :: st) I L G D S := by
  subst hp
  exact ⟨kk.1, fun p e Rm s m args below meth c H locs n0 z0 ls hC hR hU hN hP hS hl => W.bast hC.1 hC.2.1 (jm_ar hP hs (by decide) (by decide)) (jm_aty hC 2 rfl n _) (fun q => by cases q) (jm_in' hin) rfl rfl hd fun H1 e1 z1 oq => kk.2 p e Rm s m args below meth c H1 _ n0 z0 ls hC hR hU hN (jm_rep_set hP hs z1 oq ⟨fun h1 => absurd h1 (by simp), fun _ _ => jm_set e1 (fun j => jm_upd_I (by rw [jm_val_I rfl, j_up_same]; rfl) j)⟩ (fun kd a' j h => jm_oth_I kd a' j h)) (hS.put z1 oq (by show E.1 ≤ _; omega)) hl⟩
theorem j_last {a n : Nat} {i : Int32} {x : Int64} (pc' : Nat) (hd : decode X.2.1 pc = .ok (.lastore, 1)) (hp : pc + 1 = pc') (hs : S[a]? = some (23, n)) (hin : vp_in i n) (kk : AtJ E X Z U d pc' lv st I (j_up L a i.toNatClampNeg x) G D S) : AtJ E X Z U d pc lv (.long x :: .int i :: .ref (E.1 + a) :: st) I L G D S := by
  subst hp
  exact ⟨kk.1, fun p e Rm s m args below meth c H locs n0 z0 ls hC hR hU hN hP hS hl => W.last hC.1 hC.2.1 (jm_ar hP hs (by decide) (by decide)) (jm_aty hC 3 rfl n _) (fun q => by cases q) (jm_in' hin) rfl rfl hd fun H1 e1 z1 oq => kk.2 p e Rm s m args below meth c H1 _ n0 z0 ls hC hR hU hN (jm_rep_set hP hs z1 oq ⟨fun h1 => absurd h1 (by simp), fun _ _ => jm_set e1 (fun j => jm_upd_L (by rw [jm_val_L rfl, j_up_same]) j)⟩ (fun kd a' j h => jm_oth_L kd a' j h)) (hS.put z1 oq (by show E.1 ≤ _; omega)) hl⟩
-- ===== ends =====
theorem jm_F {s : State} {H : Heap} {locs : List Loc} {t : State} (hS : va_S (fun q => E.1 ≤ q) s.heap H locs) (ht : t.heap = H) : va_F (fun q => E.1 ≤ q) s t := ⟨by rw [ht]; exact hS.1, fun q h1 h2 => by rw [ht]; exact hS.2.1 q h1 h2⟩
theorem j_iret {v : Int32} (hd : decode X.2.1 pc = .ok (.ireturn, 1)) (hr : X.2.2.2 = some .int) : AtJ E X (Zr E (some (.int v)) I L G D S) (S.length, jm_sl S) d pc lv [.int v] I L G D S :=
  ⟨⟨Nat.le_refl _, Nat.le_refl _⟩, fun p e Rm s m args below meth c H locs n0 z0 ls hC hR hU hN hP hS hl => W.iret hC.1 hC.2.1 (hC.2.2.2.1.trans hr) (fun t ht _ => ⟨rfl, by rw [ht]; exact hP, jm_F hS ht⟩) hS.2.2 hd hC.2.2.2.2.1⟩
theorem j_zret {v : Int32} (hd : decode X.2.1 pc = .ok (.ireturn, 1)) (hr : X.2.2.2 = some .boolean) (hv : jm_b01 v = v) : AtJ E X (Zr E (some (.int v)) I L G D S) (S.length, jm_sl S) d pc lv [.int v] I L G D S :=
  ⟨⟨Nat.le_refl _, Nat.le_refl _⟩, fun p e Rm s m args below meth c H locs n0 z0 ls hC hR hU hN hP hS hl => W.zret hC.1 hC.2.1 (hC.2.2.2.1.trans hr) (jm_nar hv) (fun t ht _ => ⟨rfl, by rw [ht]; exact hP, jm_F hS ht⟩) hS.2.2 hd hC.2.2.2.2.1⟩
theorem j_vret (hd : decode X.2.1 pc = .ok (.return_, 1)) (hr : X.2.2.2 = none) : AtJ E X (Zr E none I L G D S) (S.length, jm_sl S) d pc lv [] I L G D S :=
  ⟨⟨Nat.le_refl _, Nat.le_refl _⟩, fun p e Rm s m args below meth c H locs n0 z0 ls hC hR hU hN hP hS hl => W.vret hC.1 hC.2.1 (hC.2.2.2.1.trans hr) (fun t ht _ => ⟨rfl, by rw [ht]; exact hP, jm_F hS ht⟩) hS.2.2 hd hC.2.2.2.2.1⟩
theorem j_lret {v : Int64} (hd : decode X.2.1 pc = .ok (.lreturn, 1)) (hr : X.2.2.2 = some .long) : AtJ E X (Zr E (some (.long v)) I L G D S) (S.length, jm_sl S) d pc lv [.long v] I L G D S :=
  ⟨⟨Nat.le_refl _, Nat.le_refl _⟩, fun p e Rm s m args below meth c H locs n0 z0 ls hC hR hU hN hP hS hl => W.lret hC.1 hC.2.1 (hC.2.2.2.1.trans hr) (fun t ht _ => ⟨rfl, by rw [ht]; exact hP, jm_F hS ht⟩) hS.2.2 hd hC.2.2.2.2.1⟩
theorem j_sub {lv' : List (Nat × Value)} (ks : List Nat) (h : lv_pick lv ks = lv') (k : AtJ E X Z U d pc lv' st I L G D S) : AtJ E X Z U d pc lv st I L G D S :=
  ⟨k.1, fun p e Rm s m args below meth c H locs n0 z0 ls hC hR hU hN hP hS hl => k.2 p e Rm s m args below meth c H locs n0 z0 ls hC hR hU hN hP hS (lv_sub hl ks h)⟩
-- ===== calls =====
theorem j_entry {Y : JX} {as : List Value} {r : Option Value} {I' : JI} {L' : JL} {G' D' : JG} {S' : JS} (hy : plainName Y.1.cls = true ∧ Y.1.cls ≠ "FirstComerLaw") (hlen : (lg_sl as).length ≤ Y.2.2.1) (k : AtJ E Y (Zr E r I' L' G' D' S') (S'.length, jm_sl S') d 0 (lv_args 0 as) [] I L G D S) : CallJ E Y d as I L G D S r I' L' G' D' S' := by
  refine ⟨k.1, Met.ofW (cc := Y.2.1) (maxL := Y.2.2.1) (ret := Y.2.2.2) hy.1 rfl ?_⟩
  intro p e s m args below meth c s₁ B hml hv
  obtain ⟨rfl, hK, hP⟩ := hv
  have hts := atoms_spec B.pre
  have hl := lv_entry as (n := Y.2.2.1) hlen
  have hno : ∀ x ∈ c.exceptionTable.toList, False := by
    obtain ⟨meth9, c9, h1, h2, -, -, -, -, h7, -⟩ := Cond.code_spec B.named (hts _ List.mem_cons_self)
    cases Option.some.inj (h1.symm.trans B.method)
    cases Option.some.inj (h2.symm.trans (Stand.of_body B).code)
    intro x hx
    rw [Array.isEmpty_iff.mp h7] at hx
    cases hx
  rw [lg_entry_eq]
  have hW := k.2 p e { frames := d, cells := S'.length - S.length, slots := jm_sl S' - jm_sl S, locals := 64 * d } s m as.toArray below meth c s.heap [] S.length (jm_sl S) _ ⟨B.exec, B.bytes, hml, B.returns, B.notSynchronized, ⟨fun hi => (name_of_methodNamed B.named B.method).1.trans hi, fun _ => hno, fun h => absurd h.1 hy.2⟩, findClass_of_methodNamed B.named, fun w hw => hts w (List.mem_cons_of_mem _ hw), hK⟩ ⟨Nat.le_refl _, Nat.le_refl _⟩ ⟨Nat.add_sub_of_le k.1.1, Nat.add_sub_of_le k.1.2⟩ ⟨Nat.le_refl _, Nat.le_refl _, hP.1.symm⟩ hP va_S.rf hl
  rw [Nat.sub_self, Nat.sub_self] at hW
  exact hW
theorem jm_run {p : Program} {e : Env} {Rm : Room} {s : State} {m : MethodId} {args : Array Value} {below : List Frame} {meth : Method} {c : Code} {H : Heap} {locs : List Loc} {cells slots mc ms : Nat} {Q : State → Prop} {ls : Array Slot} {st0 rest : List Value} {r : Option Value} {av : Array Value}
    (hr : va_Run p E.2.1 e Rm s m args below meth c H locs cells slots mc ms (F0 m pc ls st0) rest (jm_Q E r I L G D S av) (fun q => E.1 ≤ q)) (hS : va_S (fun q => E.1 ≤ q) s.heap H locs)
    (kk : ∀ (H1 : Heap) (locs1 : List Loc), jm_rep E I L G D S H1 → va_S (fun q => E.1 ≤ q) s.heap H1 locs1 → W p E.2.1 e Rm s m args below meth c H1 locs1 (cells + mc) (slots + ms) Q (F0 m (pc + 3) ls (r.toList ++ rest))) : W p E.2.1 e Rm s m args below meth c H locs cells slots Q (F0 m pc ls st0) := by
  intro T hT X
  obtain ⟨v, st₀, t, T', L', h0, X', hL, e1, e2, ⟨hv, hrep, hz, hk⟩, st⟩ := hr T hT X
  cases hv
  rw [h0] at hz hk
  obtain ⟨t2, a1, b1⟩ := kk T'.heap (locs ++ L') (by rw [e1]; exact hrep) ⟨Nat.le_trans hS.1 (by rw [e1]; exact hz), fun q h1 h2 => by rw [e1, hk q (Nat.lt_of_lt_of_le h1 hS.1) h2]; exact hS.2.1 q h1 h2, fun q hq => by
    rcases List.mem_append.mp hq with h | h
    · exact hS.2.2 q h
    · exact hL q h⟩ T' rfl X'
  exact ⟨t2, st t2 a1, b1⟩
theorem jm_blind (as : List Value) : FrameBlind (va_Pc as (fun U => jm_K E U ∧ jm_rep E I L G D S U.heap)) := fun a U g mk q => ⟨q.1, jm_K_vm (s := U) (U := U.calling g mk a) rfl rfl q.2.1, q.2.2⟩
/-- what every call asks of the tables -/
def jm_Y (Y : JX) (n : Nat) : Prop := Cond.code Y.1 Y.2.1 Y.2.2.1 Y.2.2.2 ∈ jm_tbl ∧ Cond.initialized Y.1.cls ∈ jm_tbl ∧ (Y.1.cls ≠ "java/lang/invoke/MethodHandle" ∧ Y.1.cls ≠ "java/lang/invoke/VarHandle" ∧ (parseMethodDescriptor Y.1.desc).map (fun d => d.parameters.length) = some n) ∧ Y.2.2.1 ≤ 45
theorem jm_cells {n0 u a b c : Nat} (h0 : n0 ≤ a) (h1 : a ≤ b) (h2 : b ≤ u) (h : n0 + c = u) : a - n0 + (b - a) ≤ c ∧ a - n0 + (b - a) = b - n0 := by omega
theorem j_callV {Y : JX} {d' idx n ci a N : Nat} {As rest : List Value} {r : Option Value} {I' : JI} {L' : JL} {G' D' : JG} {S' : JS} {T : u_T} {ty : Nat → FieldType} (pc' : Nat) (hd : decode X.2.1 pc = .ok (.invokevirtual idx, 3)) (hp : pc + 3 = pc') (hY : jm_Y Y n) (hM : CallJ E Y d' (.ref (E.1 + a) :: As) I L G D S r I' L' G' D' S') (hs : S[a]? = some (ci, N)) (hc : jm_CL ci Y.1.cls T N ty) (hl1 : Cond.methodLink X.1.cls idx Y.1 ∈ jm_tbl) (hl2 : Cond.instanceMethod Y.1 ∈ jm_tbl) (hl3 : Cond.selects Y.1.cls Y.1 Y.1 ∈ jm_tbl) (hdd : d' + 1 ≤ d) (hn : As.length = n) (hst : st = As.reverse ++ .ref (E.1 + a) :: rest) (hrest : (rest.map fun v => v.category).sum ≤ 8) (kk : AtJ E X Z U d pc' lv (r.toList ++ rest) I' L' G' D' S') : AtJ E X Z U d pc lv st I L G D S := by
  subst hp hst
  refine ⟨⟨Nat.le_trans hM.1.1 kk.1.1, Nat.le_trans hM.1.2 kk.1.2⟩, fun p e Rm s m args below meth c H locs n0 z0 ls hC hR hU hN hP hS hl => ?_⟩
  have hCC := hC
  obtain ⟨hx, hb, hml, -, -, -, hown, hts, hK⟩ := hCC
  obtain ⟨cell, q1, q2, q3, -⟩ := jm_ob hP hs hc
  have hz := jm_cells hN.1 hM.1.1 kk.1.1 hU.1
  have hw := jm_cells hN.2.1 hM.1.2 kk.1.2 hU.2
  have hY4 := hY.2.2.2
  refine jm_run (va_runV (cc := X.2.1) (nL := X.2.2.1) (Ts := jm_tbl) (own := X.1.cls) (C := Y.1.cls) (bytes := Y.2.1) (maxL := Y.2.2.1) (ret := Y.2.2.2) (n := n) (As := As) (rest := rest) (b := E.1 + a) ⟨hx, hb, hml, hown, hts⟩ hM.2 ⟨callB_of n hts (jm_gic hY.1) rfl rfl rfl (hts _ hY.2.1) (hts _ hl1) hY.2.2.1 ⟨by show d' + 1 ≤ _; omega, by show 8 + (Y.2.2.1 + 11) + 64 * d' ≤ _; omega⟩, hts _ hl2, hts _ hl3⟩ ⟨jm_blind _, ⟨cell, q1, by rw [q3]; rfl, by rw [q2]; exact (hK.1.1 ci _ hc.2.1).2.1⟩, fun U0 hU0 hWm => ⟨rfl, jm_K_warm hWm hS hU0 hK, by rw [hU0]; exact hP⟩⟩ rfl hn hl.1 rfl (lv_room hrest) hd ⟨hz.1, hw.1⟩) hS fun H1 locs1 hP1 hS1 => ?_
  rw [hz.2, hw.2]
  exact kk.2 p e Rm s m args below meth c H1 locs1 n0 z0 ls hC hR hU ⟨Nat.le_trans hN.1 hM.1.1, Nat.le_trans hN.2.1 hM.1.2, hN.2.2⟩ hP1 hS1 hl
theorem j_callVN {Y : JX} {host : String} {d' idx n ci a N : Nat} {As rest : List Value} {r : Option Value} {I' : JI} {L' : JL} {G' D' : JG} {S' : JS} {T : u_T} {ty : Nat → FieldType} (pc' : Nat) (hd : decode X.2.1 pc = .ok (.invokevirtual idx, 3)) (hp : pc + 3 = pc') (hY : jm_Y Y n) (hM : CallJ E Y d' (.ref (E.1 + a) :: As) I L G D S r I' L' G' D' S') (hs : S[a]? = some (ci, N)) (hc : jm_CL ci Y.1.cls T N ty) (hl1 : Cond.methodLinkNest X.1.cls idx Y.1 host ∈ lw_tbl) (hl2 : Cond.instanceMethod Y.1 ∈ jm_tbl) (hl3 : Cond.selects Y.1.cls Y.1 Y.1 ∈ jm_tbl) (hdd : d' + 1 ≤ d) (hn : As.length = n) (hst : st = As.reverse ++ .ref (E.1 + a) :: rest) (hrest : (rest.map fun v => v.category).sum ≤ 8) (kk : AtJ E X Z U d pc' lv (r.toList ++ rest) I' L' G' D' S') : AtJ E X Z U d pc lv st I L G D S := by
  subst hp hst
  refine ⟨⟨Nat.le_trans hM.1.1 kk.1.1, Nat.le_trans hM.1.2 kk.1.2⟩, fun p e Rm s m args below meth c H locs n0 z0 ls hC hR hU hN hP hS hl => ?_⟩
  have hCC := hC
  obtain ⟨hx, hb, hml, -, -, -, hown, hts, hK⟩ := hCC
  obtain ⟨cell, q1, q2, q3, -⟩ := jm_ob hP hs hc
  have hz := jm_cells hN.1 hM.1.1 kk.1.1 hU.1
  have hw := jm_cells hN.2.1 hM.1.2 kk.1.2 hU.2
  have hY4 := hY.2.2.2
  refine jm_run (va_runVN (cc := X.2.1) (nL := X.2.2.1) (Ts := jm_tbl) (own := X.1.cls) (C := Y.1.cls) (bytes := Y.2.1) (maxL := Y.2.2.1) (ret := Y.2.2.2) (n := n) (As := As) (rest := rest) (b := E.1 + a) ⟨hx, hb, hml, hown, hts⟩ hM.2 ⟨va_cnB n hts (jm_gic hY.1) rfl rfl rfl (hK.2.1 _ hl1 rfl) (hts _ hY.2.1) hY.2.2.1 ⟨by show d' + 1 ≤ _; omega, by show 8 + (Y.2.2.1 + 11) + 64 * d' ≤ _; omega⟩, hts _ hl2, hts _ hl3⟩ ⟨jm_blind _, ⟨cell, q1, by rw [q3]; rfl, by rw [q2]; exact (hK.1.1 ci _ hc.2.1).2.1⟩, fun U0 hU0 hWm => ⟨rfl, jm_K_warm hWm hS hU0 hK, by rw [hU0]; exact hP⟩⟩ rfl hn hl.1 rfl (lv_room hrest) hd ⟨hz.1, hw.1⟩) hS fun H1 locs1 hP1 hS1 => ?_
  rw [hz.2, hw.2]
  exact kk.2 p e Rm s m args below meth c H1 locs1 n0 z0 ls hC hR hU ⟨Nat.le_trans hN.1 hM.1.1, Nat.le_trans hN.2.1 hM.1.2, hN.2.2⟩ hP1 hS1 hl
theorem j_callS {Y : JX} {d' idx n : Nat} {As rest : List Value} {r : Option Value} {I' : JI} {L' : JL} {G' D' : JG} {S' : JS} (pc' : Nat) (hd : decode X.2.1 pc = .ok (.invokestatic idx, 3)) (hp : pc + 3 = pc') (hY : jm_Y Y n) (hM : CallJ E Y d' As I L G D S r I' L' G' D' S') (hl1 : Cond.methodLink X.1.cls idx Y.1 ∈ jm_tbl) (hl2 : Cond.static Y.1 ∈ jm_tbl) (hdd : d' + 1 ≤ d) (hn : As.length = n) (hst : st = As.reverse ++ rest) (hrest : (rest.map fun v => v.category).sum ≤ 8) (kk : AtJ E X Z U d pc' lv (r.toList ++ rest) I' L' G' D' S') : AtJ E X Z U d pc lv st I L G D S := by
  subst hp hst
  refine ⟨⟨Nat.le_trans hM.1.1 kk.1.1, Nat.le_trans hM.1.2 kk.1.2⟩, fun p e Rm s m args below meth c H locs n0 z0 ls hC hR hU hN hP hS hl => ?_⟩
  have hCC := hC
  obtain ⟨hx, hb, hml, -, -, -, hown, hts, hK⟩ := hCC
  have hz := jm_cells hN.1 hM.1.1 kk.1.1 hU.1
  have hw := jm_cells hN.2.1 hM.1.2 kk.1.2 hU.2
  have hY4 := hY.2.2.2
  refine jm_run (va_runS (cc := X.2.1) (nL := X.2.2.1) (Ts := jm_tbl) (own := X.1.cls) (bytes := Y.2.1) (maxL := Y.2.2.1) (ret := Y.2.2.2) (n := n) (As := As) (rest := rest) ⟨hx, hb, hml, hown, hts⟩ hM.2 ⟨callB_of n hts (jm_gic hY.1) rfl rfl rfl (hts _ hY.2.1) (hts _ hl1) hY.2.2.1 ⟨by show d' + 1 ≤ _; omega, by show 8 + (Y.2.2.1 + 11) + 64 * d' ≤ _; omega⟩, hts _ hl2⟩ ⟨jm_blind _, fun U0 hU0 hWm => ⟨rfl, jm_K_warm hWm hS hU0 hK, by rw [hU0]; exact hP⟩⟩ rfl hn hl.1 rfl (lv_room hrest) hd ⟨hz.1, hw.1⟩) hS fun H1 locs1 hP1 hS1 => ?_
  rw [hz.2, hw.2]
  exact kk.2 p e Rm s m args below meth c H1 locs1 n0 z0 ls hC hR hU ⟨Nat.le_trans hN.1 hM.1.1, Nat.le_trans hN.2.1 hM.1.2, hN.2.2⟩ hP1 hS1 hl
theorem j_callSN {Y : JX} {host : String} {d' idx n : Nat} {As rest : List Value} {r : Option Value} {I' : JI} {L' : JL} {G' D' : JG} {S' : JS} (pc' : Nat) (hd : decode X.2.1 pc = .ok (.invokestatic idx, 3)) (hp : pc + 3 = pc') (hY : jm_Y Y n) (hM : CallJ E Y d' As I L G D S r I' L' G' D' S') (hl1 : Cond.methodLinkNest X.1.cls idx Y.1 host ∈ lw_tbl) (hl2 : Cond.static Y.1 ∈ jm_tbl) (hdd : d' + 1 ≤ d) (hn : As.length = n) (hst : st = As.reverse ++ rest) (hrest : (rest.map fun v => v.category).sum ≤ 8) (kk : AtJ E X Z U d pc' lv (r.toList ++ rest) I' L' G' D' S') : AtJ E X Z U d pc lv st I L G D S := by
  subst hp hst
  refine ⟨⟨Nat.le_trans hM.1.1 kk.1.1, Nat.le_trans hM.1.2 kk.1.2⟩, fun p e Rm s m args below meth c H locs n0 z0 ls hC hR hU hN hP hS hl => ?_⟩
  have hCC := hC
  obtain ⟨hx, hb, hml, -, -, -, hown, hts, hK⟩ := hCC
  have hz := jm_cells hN.1 hM.1.1 kk.1.1 hU.1
  have hw := jm_cells hN.2.1 hM.1.2 kk.1.2 hU.2
  have hY4 := hY.2.2.2
  refine jm_run (va_runSN (cc := X.2.1) (nL := X.2.2.1) (Ts := jm_tbl) (own := X.1.cls) (bytes := Y.2.1) (maxL := Y.2.2.1) (ret := Y.2.2.2) (n := n) (As := As) (rest := rest) ⟨hx, hb, hml, hown, hts⟩ hM.2 ⟨va_cnB n hts (jm_gic hY.1) rfl rfl rfl (hK.2.1 _ hl1 rfl) (hts _ hY.2.1) hY.2.2.1 ⟨by show d' + 1 ≤ _; omega, by show 8 + (Y.2.2.1 + 11) + 64 * d' ≤ _; omega⟩, hts _ hl2, trivial⟩ ⟨jm_blind _, fun U0 hU0 hWm => ⟨rfl, jm_K_warm hWm hS hU0 hK, by rw [hU0]; exact hP⟩⟩ rfl hn hl.1 rfl (lv_room hrest) hd ⟨hz.1, hw.1⟩) hS fun H1 locs1 hP1 hS1 => ?_
  rw [hz.2, hw.2]
  exact kk.2 p e Rm s m args below meth c H1 locs1 n0 z0 ls hC hR hU ⟨Nat.le_trans hN.1 hM.1.1, Nat.le_trans hN.2.1 hM.1.2, hN.2.2⟩ hP1 hS1 hl
theorem j_callI {y : MethodName} {cy : ByteArray} {my d' idx n a : Nat} {As rest : List Value} {r : Option Value} {I' : JI} {L' : JL} {G' D' : JG} {S' : JS} (pc' : Nat) (hd : decode X.2.1 pc = .ok (.invokespecial idx, 3)) (hp : pc + 3 = pc') (hY : jm_Y (y, cy, my, none) n) (hM : CallJ E (y, cy, my, none) d' (.ref (E.1 + a) :: As) I L G D S r I' L' G' D' S') (hl1 : Cond.methodLink X.1.cls idx y ∈ jm_tbl) (hl2 : Cond.instanceMethod y ∈ jm_tbl) (hyn : y.name = "<init>") (hdd : d' + 1 ≤ d) (hn : As.length = n) (hst : st = As.reverse ++ .ref (E.1 + a) :: rest) (hrest : (rest.map fun v => v.category).sum ≤ 8) (kk : AtJ E X Z U d pc' lv (r.toList ++ rest) I' L' G' D' S') : AtJ E X Z U d pc lv st I L G D S := by
  subst hp hst
  refine ⟨⟨Nat.le_trans hM.1.1 kk.1.1, Nat.le_trans hM.1.2 kk.1.2⟩, fun p e Rm s m args below meth c H locs n0 z0 ls hC hR hU hN hP hS hl => ?_⟩
  have hCC := hC
  obtain ⟨hx, hb, hml, -, -, -, hown, hts, hK⟩ := hCC
  have hz := jm_cells hN.1 hM.1.1 kk.1.1 hU.1
  have hw := jm_cells hN.2.1 hM.1.2 kk.1.2 hU.2
  have hY4 : my ≤ 45 := hY.2.2.2
  refine jm_run (va_runI (cc := X.2.1) (nL := X.2.2.1) (Ts := jm_tbl) (own := X.1.cls) (bytes := cy) (maxL := my) (n := n) (As := As) (rest := rest) (b := E.1 + a) ⟨hx, hb, hml, hown, hts⟩ hM.2 ⟨callB_of n hts (jm_gic hY.1) rfl rfl rfl (hts _ hY.2.1) (hts _ hl1) hY.2.2.1 ⟨by show d' + 1 ≤ _; omega, by show 8 + (my + 11) + 64 * d' ≤ _; omega⟩, hyn, hts _ hl2⟩ ⟨jm_blind _, fun U0 hU0 hWm => ⟨rfl, jm_K_warm hWm hS hU0 hK, by rw [hU0]; exact hP⟩⟩ rfl hn hl.1 rfl (lv_room hrest) hd ⟨hz.1, hw.1⟩) hS fun H1 locs1 hP1 hS1 => ?_
  rw [hz.2, hw.2]
  exact kk.2 p e Rm s m args below meth c H1 locs1 n0 z0 ls hC hR hU ⟨Nat.le_trans hN.1 hM.1.1, Nat.le_trans hN.2.1 hM.1.2, hN.2.2⟩ hP1 hS1 hl
theorem j_callIN {y : MethodName} {cy : ByteArray} {host : String} {my d' idx n a : Nat} {As rest : List Value} {r : Option Value} {I' : JI} {L' : JL} {G' D' : JG} {S' : JS} (pc' : Nat) (hd : decode X.2.1 pc = .ok (.invokespecial idx, 3)) (hp : pc + 3 = pc') (hY : jm_Y (y, cy, my, none) n) (hM : CallJ E (y, cy, my, none) d' (.ref (E.1 + a) :: As) I L G D S r I' L' G' D' S') (hl1 : Cond.methodLinkNest X.1.cls idx y host ∈ lw_tbl) (hl2 : Cond.instanceMethod y ∈ jm_tbl) (hyn : y.name = "<init>") (hdd : d' + 1 ≤ d) (hn : As.length = n) (hst : st = As.reverse ++ .ref (E.1 + a) :: rest) (hrest : (rest.map fun v => v.category).sum ≤ 8) (kk : AtJ E X Z U d pc' lv (r.toList ++ rest) I' L' G' D' S') : AtJ E X Z U d pc lv st I L G D S := by
  subst hp hst
  refine ⟨⟨Nat.le_trans hM.1.1 kk.1.1, Nat.le_trans hM.1.2 kk.1.2⟩, fun p e Rm s m args below meth c H locs n0 z0 ls hC hR hU hN hP hS hl => ?_⟩
  have hCC := hC
  obtain ⟨hx, hb, hml, -, -, -, hown, hts, hK⟩ := hCC
  have hz := jm_cells hN.1 hM.1.1 kk.1.1 hU.1
  have hw := jm_cells hN.2.1 hM.1.2 kk.1.2 hU.2
  have hY4 : my ≤ 45 := hY.2.2.2
  refine jm_run (va_runIN (cc := X.2.1) (nL := X.2.2.1) (Ts := jm_tbl) (own := X.1.cls) (bytes := cy) (maxL := my) (n := n) (As := As) (rest := rest) (b := E.1 + a) ⟨hx, hb, hml, hown, hts⟩ hM.2 ⟨va_cnB n hts (jm_gic hY.1) rfl rfl rfl (hK.2.1 _ hl1 rfl) (hts _ hY.2.1) hY.2.2.1 ⟨by show d' + 1 ≤ _; omega, by show 8 + (my + 11) + 64 * d' ≤ _; omega⟩, hyn, hts _ hl2⟩ ⟨jm_blind _, fun U0 hU0 hWm => ⟨rfl, jm_K_warm hWm hS hU0 hK, by rw [hU0]; exact hP⟩⟩ rfl hn hl.1 rfl (lv_room hrest) hd ⟨hz.1, hw.1⟩) hS fun H1 locs1 hP1 hS1 => ?_
  rw [hz.2, hw.2]
  exact kk.2 p e Rm s m args below meth c H1 locs1 n0 z0 ls hC hR hU ⟨Nat.le_trans hN.1 hM.1.1, Nat.le_trans hN.2.1 hM.1.2, hN.2.2⟩ hP1 hS1 hl
theorem j_obj {idx a : Nat} (pc' : Nat) (hd : decode X.2.1 pc = .ok (.invokespecial idx, 3)) (hp : pc + 3 = pc') (hl1 : Cond.methodLink X.1.cls idx Lib.objectInit ∈ jm_tbl) (hl2 : Cond.instanceMethod Lib.objectInit ∈ jm_tbl) (hl3 : Cond.code Lib.objectInit ⟨#[0xb1]⟩ 1 none ∈ jm_tbl) (hdd : 1 ≤ d) (hrest : (st.map fun v => v.category).sum ≤ 8) (kk : AtJ E X Z U d pc' lv st I L G D S) : AtJ E X Z U d pc lv (.ref (E.1 + a) :: st) I L G D S := by
  subst hp
  refine ⟨kk.1, fun p e Rm s m args below meth c H locs n0 z0 ls hC hR hU hN hP hS hl => ?_⟩
  have hCC := hC
  obtain ⟨hx, hb, hml, -, -, -, hown, hts, hK⟩ := hCC
  have h8 : 2 * (F0 m pc ls st).monitorRoom + (st.map fun v => v.category).sum ≤ 8 := lv_room hrest
  exact W.objInit hx hb hown (hts _ hl1) (hts _ hl2) (hts _ hl3) rfl (hl.1.trans hml.symm) rfl hd (by omega) (by show 2 * (F0 m pc ls (Value.ref (E.1 + a) :: st)).monitorRoom + _ + 12 ≤ _; have : (F0 m pc ls (Value.ref (E.1 + a) :: st)).monitorRoom = (F0 m pc ls st).monitorRoom := rfl; omega) (kk.2 p e Rm s m args below meth c H locs n0 z0 ls hC hR hU hN hP hS hl)
-- ===== arrays of references, lengths =====
theorem j_aald {a n kd i0 b : Nat} {C : String} {i : Int32} (pc' : Nat) (hd : decode X.2.1 pc = .ok (.aaload, 1)) (hp : pc + 1 = pc') (hs : S[a]? = some (kd, n)) (h1 : 20 ≤ kd) (h2 : kd < 60) (hty : ∀ k, jm_ty kd k = 4) (ht : (jm_tyl E.2.2.2)[i0]? = some (E.2.2.2 kd, .object C)) (hin : vp_in i n) (hg : D a i.toNatClampNeg = some b) (kk : AtJ E X Z U d pc' lv (.ref (E.1 + b) :: st) I L G D S) : AtJ E X Z U d pc lv (.int i :: .ref (E.1 + a) :: st) I L G D S := by
  subst hp
  exact ⟨kk.1, fun p e Rm s m args below meth c H locs n0 z0 ls hC hR hU hN hP hS hl => W.aald hC.1 hC.2.1 (jm_ar hP hs h1 h2) (jm_aty hC i0 ht n _) rfl (fun q => by cases q) (jm_in' hin) (by rw [arrV_read _ _ (jm_lt hin), jm_val_D (hty _), hg]; rfl) rfl rfl hd (kk.2 p e Rm s m args below meth c H locs n0 z0 ls hC hR hU hN hP hS hl)⟩
theorem j_aaldN {a n kd i0 : Nat} {C : String} {i : Int32} (pc' : Nat) (hd : decode X.2.1 pc = .ok (.aaload, 1)) (hp : pc + 1 = pc') (hs : S[a]? = some (kd, n)) (h1 : 20 ≤ kd) (h2 : kd < 60) (hty : ∀ k, jm_ty kd k = 4) (ht : (jm_tyl E.2.2.2)[i0]? = some (E.2.2.2 kd, .object C)) (hin : vp_in i n) (hg : D a i.toNatClampNeg = none) (kk : AtJ E X Z U d pc' lv (.null :: st) I L G D S) : AtJ E X Z U d pc lv (.int i :: .ref (E.1 + a) :: st) I L G D S := by
  subst hp
  exact ⟨kk.1, fun p e Rm s m args below meth c H locs n0 z0 ls hC hR hU hN hP hS hl => W.aald hC.1 hC.2.1 (jm_ar hP hs h1 h2) (jm_aty hC i0 ht n _) rfl (fun q => by cases q) (jm_in' hin) (by rw [arrV_read _ _ (jm_lt hin), jm_val_D (hty _), hg]; rfl) rfl rfl hd (kk.2 p e Rm s m args below meth c H locs n0 z0 ls hC hR hU hN hP hS hl)⟩
theorem j_aast {a b n kd i0 ci N : Nat} {C : String} {T : u_T} {ty : Nat → FieldType} {i : Int32} (pc' : Nat) (hd : decode X.2.1 pc = .ok (.aastore, 1)) (hp : pc + 1 = pc') (hs : S[a]? = some (kd, n)) (h1 : 20 ≤ kd) (h2 : kd < 60) (hty : ∀ k, jm_ty kd k = 4) (ht : (jm_tyl E.2.2.2)[i0]? = some (E.2.2.2 kd, .object C)) (hb : S[b]? = some (ci, N)) (hc : jm_CL ci C T N ty) (hin : vp_in i n) (kk : AtJ E X Z U d pc' lv st I L G (j_up D a i.toNatClampNeg (some b)) S) : AtJ E X Z U d pc lv (.ref (E.1 + b) :: .int i :: .ref (E.1 + a) :: st) I L G D S := by
  subst hp
  refine ⟨kk.1, fun p e Rm s m args below meth c H locs n0 z0 ls hC hR hU hN hP hS hl => ?_⟩
  have hK := hC.2.2.2.2.2.2.2.2.1
  obtain ⟨cellV, g1, g2, g3, -⟩ := jm_ob hP hb hc
  have hcls := (hK.1 ci _ hc.2.1).2
  obtain ⟨kA, comp, k1, k2, k3, -⟩ := (hK.2 i0 _ ht).2
  have hcomp : comp = E.2.2.1.1 ci := Option.some.inj (k3.symm.trans hcls.1)
  subst hcomp
  obtain ⟨kC, hkC, -⟩ := hcls.2
  refine W.aast hC.1 hC.2.1 (jm_ar hP hs h1 h2) (fun q h => by cases h) (fun h => by cases h) k1 k2 rfl hkC ⟨fun q => hin (Or.inl q), by show _ < (arrV _ _ _).slots.size; rw [arrV_size]; exact jm_lt hin⟩ g1 (fun q h => by rw [g3] at h; cases h) (by rw [g2]; exact hkC) (by rw [g2]; exact va_assign hcls) rfl rfl hd fun H1 e1 z1 oq => ?_
  exact kk.2 p e Rm s m args below meth c H1 _ n0 z0 ls hC hR hU hN (jm_rep_set hP hs z1 oq ⟨fun h3 => absurd h3 (by simp; omega), fun _ _ => jm_set e1 (fun j => jm_upd_D (by rw [jm_val_D (hty _), j_up_same]; rfl) j)⟩ (fun kd a' j h => jm_oth_D kd a' j h)) (hS.put z1 oq (by show E.1 ≤ _; omega)) hl
theorem j_alen {a n kd i0 : Nat} {fty : FieldType} {v : Int32} (pc' : Nat) (hd : decode X.2.1 pc = .ok (.arraylength, 1)) (hp : pc + 1 = pc') (hs : S[a]? = some (kd, n)) (h1 : 20 ≤ kd) (h2 : kd < 60) (ht : (jm_tyl E.2.2.2)[i0]? = some (E.2.2.2 kd, fty)) (hv : Int32.ofNat n = v) (kk : AtJ E X Z U d pc' lv (.int v :: st) I L G D S) : AtJ E X Z U d pc lv (.ref (E.1 + a) :: st) I L G D S := by
  subst hp
  exact ⟨kk.1, fun p e Rm s m args below meth c H locs n0 z0 ls hC hR hU hN hP hS hl => W.alen hC.1 hC.2.1 (jm_ar hP hs h1 h2) (jm_aty hC i0 ht n _) (by rw [arrV_size]; exact hv) rfl rfl hd (kk.2 p e Rm s m args below meth c H locs n0 z0 ls hC hR hU hN hP hS hl)⟩
-- ===== what is made =====
theorem jm_fresh {cA : ClassId} {n : Nat} {v : Value} {f : Nat → Value} (h : ∀ k, k < n → f k = v) : arrV cA n (fun _ => v) = arrV cA n f := by
  unfold arrV
  congr 1
  exact congrArg Array.ofFn (funext fun k => (h k.val k.isLt).symm)
/-- a new array of numbers: the tables are empty where it comes to lie -/
theorem j_newa {atype : ArrayType} {n : Int32} {N kd i0 : Nat} {fty : FieldType} (pc' : Nat) (hd : decode X.2.1 pc = .ok (.newarray atype, 2)) (hp : pc + 2 = pc') (hw : Cond.arrayClass (newarray.typeOf atype) ∈ jm_tbl) (hft : newarray.typeOf atype = fty) (ht : (jm_tyl E.2.2.2)[i0]? = some (E.2.2.2 kd, fty)) (h1 : 20 ≤ kd) (h2 : kd < 60) (hra : ∀ (s : State) (cA : ClassId), va_RA s cA fty = (s.vm.findClass ("[" ++ fty.toString) = some cA)) (hn : ¬ n < 0) (hN : n.toNatClampNeg = N) (hby : N * componentBytes fty ≤ 536870912) (hz : ∀ k, k < N → jm_val E.1 I L G D kd S.length k = defaultValue fty) (kk : AtJ E X Z U d pc' lv (.ref (E.1 + S.length) :: st) I L G D (S ++ [(kd, N)])) : AtJ E X Z U d pc lv (.int n :: st) I L G D S := by
  subst hp hft
  have hk1 := kk.1
  rw [jm_sl_app, List.length_append] at hk1
  simp only [List.length_singleton] at hk1
  refine ⟨⟨by omega, by omega⟩, fun p e Rm s m args below meth c H locs n0 z0 ls hC hR hU hN' hP hS hl => ?_⟩
  have hK := hC.2.2.2.2.2.2.2.2.1
  refine va_newaK hC.1 hC.2.1 (hC.2.2.2.2.2.2.2.1 _ hw) rfl hd rfl hn hN hby (by omega) (by omega) hP.1 fun H1 cA e1 z1 o1 hAr hNm => ?_
  have hra2 := (hK.2 i0 _ ht).2
  rw [hra] at hra2
  have hcA : cA = E.2.2.2 kd := Option.some.inj (hNm.symm.trans hra2)
  subst hcA
  have hP1 : jm_rep E I L G D (S ++ [(kd, N)]) H1 := jm_app E I L G D S (kd, N) hP (by rw [z1, hP.1]) (fun q hq => o1 q (by rw [hP.1] at hq; exact hq)) ⟨fun h => absurd h (by simp; omega), fun _ _ => by rw [e1]; exact congrArg some (jm_fresh hz)⟩
  have h := kk.2 p e Rm s m args below meth c H1 locs n0 z0 ls hC hR hU ⟨by simp; omega, by rw [jm_sl_app]; omega, hN'.2.2⟩ hP1 ⟨by rw [z1, ← hP.1]; exact Nat.le_succ_of_le hS.1, fun q h3 h4 => by rw [o1 q (by rw [← hP.1]; exact Nat.lt_of_lt_of_le h3 hS.1)]; exact hS.2.1 q h3 h4, hS.2.2⟩ hl
  rw [jm_sl_app, List.length_append, List.length_singleton] at h
  rw [show S.length + 1 - n0 = S.length - n0 + 1 by omega, show jm_sl S + N - z0 = jm_sl S - z0 + N by omega] at h
  exact h
theorem j_new {ci N idx : Nat} {C : String} {T : u_T} {ty : Nat → FieldType} (pc' : Nat) (hd : decode X.2.1 pc = .ok (.new idx, 3)) (hp : pc + 3 = pc') (hc : jm_CL ci C T N ty) (hl1 : Cond.classLink X.1.cls idx C ∈ jm_tbl) (hl2 : Cond.instantiable C N ∈ jm_tbl) (hl3 : Cond.initialized C ∈ jm_tbl) (hz : ∀ k, k < N → defaultValue (ty k) = jm_val E.1 I L G D ci S.length k) (kk : AtJ E X Z U d pc' lv (.ref (E.1 + S.length) :: st) I L G D (S ++ [(ci, N)])) : AtJ E X Z U d pc lv st I L G D S := by
  subst hp
  have hk1 := kk.1
  rw [jm_sl_app, List.length_append] at hk1
  simp only [List.length_singleton] at hk1
  refine ⟨⟨by omega, by omega⟩, fun p e Rm s m args below meth c H locs n0 z0 ls hC hR hU hN' hP hS hl => ?_⟩
  have hCC := hC
  obtain ⟨hx, hb, hml, -, -, -, hown, hts, hK⟩ := hCC
  have hKn := hK.1.1 ci _ hc.2.1
  refine W.newcK hx hb hown (hts _ hl1) (hts _ hl2) (hts _ hl3) rfl hd (by omega) (by omega) hKn.2.1 hP.1 fun H1 kC hkC e1 z1 o1 => ?_
  have hP1 : jm_rep E I L G D (S ++ [(ci, N)]) H1 := jm_app E I L G D S (ci, N) hP (by rw [z1, hP.1]) (fun q hq => o1 q (by rw [hP.1] at hq; exact hq)) ⟨fun _ => ⟨_, hc.2.1, rfl, (u_born ty hts hc.2.2.1 hKn hkC e1 hc.2.2.2.1).to hz⟩, fun h => absurd hc.1 (by simp at h; omega)⟩
  have h := kk.2 p e Rm s m args below meth c H1 locs n0 z0 ls hC hR hU ⟨by simp; omega, by rw [jm_sl_app]; omega, hN'.2.2⟩ hP1 ⟨by rw [z1, ← hP.1]; exact Nat.le_succ_of_le hS.1, fun q h3 h4 => by rw [o1 q (by rw [← hP.1]; exact Nat.lt_of_lt_of_le h3 hS.1)]; exact hS.2.1 q h3 h4, hS.2.2⟩ hl
  rw [jm_sl_app, List.length_append, List.length_singleton] at h
  rw [show S.length + 1 - n0 = S.length - n0 + 1 by omega, show jm_sl S + N - z0 = jm_sl S - z0 + N by omega] at h
  exact h
theorem j_aret {v : Value} {C : String} (hd : decode X.2.1 pc = .ok (.areturn, 1)) (hr : X.2.2.2 = some (.object C)) (hv : v = .null ∨ ∃ a, v = .ref a) : AtJ E X (Zr E (some v) I L G D S) (S.length, jm_sl S) d pc lv [v] I L G D S :=
  ⟨⟨Nat.le_refl _, Nat.le_refl _⟩, fun p e Rm s m args below meth c H locs n0 z0 ls hC hR hU hN hP hS hl => W.aret hC.1 hC.2.1 (hC.2.2.2.1.trans hr) (Or.inl ⟨_, rfl⟩) hv (fun t ht _ => ⟨rfl, by rw [ht]; exact hP, jm_F hS ht⟩) hS.2.2 hd hC.2.2.2.2.1⟩
-- ===== words of the functional forms =====
/-- an index within -/
def j_in (i : Int32) (n : Nat) : Bool := decide (¬ (i < 0 ∨ n ≤ i.toNatClampNeg))
theorem j_inv {i : Int32} {n : Nat} (h : j_in i n = true) : vp_in i n := by
  have h2 := of_decide_eq_true (p := ¬ (i < 0 ∨ n ≤ i.toNatClampNeg)) h
  exact h2
def j_g {α : Type} (c : Bool) (x : Option α) : Option α := match c with
  | true => x
  | false => none
def j_opt {α : Type} (o : Option Nat) (n : Option α) (s : Nat → Option α) : Option α := match o with
  | none => n
  | some b => s b
theorem j_pos {α : Type} {c : Prop} {q : Decidable c} {a b : Option α} {r : α} (hc : c) (h : (@ite _ c q a b) = some r) : a = some r := by rw [if_pos hc] at h; exact h
theorem j_neg {α : Type} {c : Prop} {q : Decidable c} {a b : Option α} {r : α} (hc : ¬ c) (h : (@ite _ c q a b) = some r) : b = some r := by rw [if_neg hc] at h; exact h
theorem j_gs {α : Type} {c : Bool} {x : Option α} {r : α} (h : j_g c x = some r) : c = true ∧ x = some r := by
  cases c
  · cases h
  · exact ⟨rfl, h⟩
theorem j_bs {α β : Type} {x : Option α} {f : α → Option β} {r : β} (h : x.bind f = some r) : ∃ q, x = some q ∧ f q = some r := Option.bind_eq_some_iff.mp h
theorem j_os {α : Type} {o : Option Nat} {n : Option α} {s : Nat → Option α} {r : α} (h : j_opt o n s = some r) : (o = none ∧ n = some r) ∨ ∃ b, o = some b ∧ s b = some r := by
  cases o with
  | none => exact Or.inl ⟨rfl, h⟩
  | some b => exact Or.inr ⟨b, rfl, h⟩
theorem j_b01_0 : jm_b01 0 = 0 := by decide
theorem j_b01_1 : jm_b01 1 = 1 := by decide
def j_clr {α : Type} (f : Nat → Nat → α) (a : Nat) (v : α) : Nat → Nat → α := fun a' k => if a' = a then v else f a' k
theorem j_agree {I' : JI} {L' : JL} {G' D' : JG} (he : ∀ (a : Nat) (sh : Nat × Nat) (k : Nat), S[a]? = some sh → k < sh.2 → jm_val E.1 I L G D sh.1 a k = jm_val E.1 I' L' G' D' sh.1 a k) (kk : AtJ E X Z U d pc lv st I' L' G' D' S) : AtJ E X Z U d pc lv st I L G D S :=
  ⟨kk.1, fun p e Rm s m args below meth c H locs n0 z0 ls hC hR hU hN hP hS hl => kk.2 p e Rm s m args below meth c H locs n0 z0 ls hC hR hU hN (jm_rep_eq hP he) hS hl⟩
theorem jm_pre {T : JS} {a : Nat} {sh : Nat × Nat} (h : S[a]? = some sh) : (S ++ T)[a]? = some sh := by
  have hl := (List.getElem?_eq_some_iff.mp h).1
  rw [List.getElem?_append_left hl]
  exact h
theorem jm_last {sh : Nat × Nat} : (S ++ [sh])[S.length]? = some sh := by simp
theorem jm_ltS {a : Nat} {sh : Nat × Nat} (h : S[a]? = some sh) : a < S.length := (List.getElem?_eq_some_iff.mp h).1
theorem j_clr_ne {α : Type} {f : Nat → Nat → α} {a b k : Nat} {v : α} (h : b ≠ a) : j_clr f a v b k = f b k := by simp [j_clr, h]
theorem jm_agI (E : JE) (I : JI) (L : JL) (G D : JG) (S : JS) : ∀ (a : Nat) (sh : Nat × Nat) (k : Nat), S[a]? = some sh → k < sh.2 → jm_val E.1 I L G D sh.1 a k = jm_val E.1 (j_clr I S.length 0) L G D sh.1 a k := fun a sh k h _ => by
  have := jm_ltS h
  simp [jm_val, j_clr, show a ≠ S.length by omega]
theorem jm_agL (E : JE) (I : JI) (L : JL) (G D : JG) (S : JS) : ∀ (a : Nat) (sh : Nat × Nat) (k : Nat), S[a]? = some sh → k < sh.2 → jm_val E.1 I L G D sh.1 a k = jm_val E.1 I (j_clr L S.length 0) G D sh.1 a k := fun a sh k h _ => by
  have := jm_ltS h
  simp [jm_val, j_clr, show a ≠ S.length by omega]
theorem jm_agO (E : JE) (I : JI) (L : JL) (G D : JG) (S : JS) : ∀ (a : Nat) (sh : Nat × Nat) (k : Nat), S[a]? = some sh → k < sh.2 → jm_val E.1 I L G D sh.1 a k = jm_val E.1 (j_clr I S.length 0) (j_clr L S.length 0) (j_clr G S.length none) (j_clr D S.length none) sh.1 a k := fun a sh k h _ => by
  have := jm_ltS h
  simp [jm_val, j_clr, show a ≠ S.length by omega]
theorem jm_agD (E : JE) (I : JI) (L : JL) (G D : JG) (S : JS) : ∀ (a : Nat) (sh : Nat × Nat) (k : Nat), S[a]? = some sh → k < sh.2 → jm_val E.1 I L G D sh.1 a k = jm_val E.1 I L G (j_clr D S.length none) sh.1 a k := fun a sh k h _ => by
  have := jm_ltS h
  simp [jm_val, j_clr, show a ≠ S.length by omega]
theorem j_nwI {n : Int32} {N : Nat} (pc' : Nat) (hd : decode X.2.1 pc = .ok (.newarray .int, 2)) (hp : pc + 2 = pc') (hw : Cond.arrayClass .int ∈ jm_tbl) (hn : ¬ n < 0) (hN : n.toNatClampNeg = N) (hby : N * 4 ≤ 536870912) (kk : AtJ E X Z U d pc' lv (.ref (E.1 + S.length) :: st) (j_clr I S.length 0) L G D (S ++ [(20, N)])) : AtJ E X Z U d pc lv (.int n :: st) I L G D S :=
  j_agree (jm_agI E I L G D S) (j_newa (i0 := 0) pc' hd hp hw rfl rfl (by decide) (by decide) (fun _ _ => rfl) hn hN hby (fun k _ => by rw [jm_val_I rfl]; simp [j_clr]; rfl) kk)
theorem j_nwZ {n : Int32} {N : Nat} (pc' : Nat) (hd : decode X.2.1 pc = .ok (.newarray .boolean, 2)) (hp : pc + 2 = pc') (hw : Cond.arrayClass .boolean ∈ jm_tbl) (hn : ¬ n < 0) (hN : n.toNatClampNeg = N) (hby : N * 1 ≤ 536870912) (kk : AtJ E X Z U d pc' lv (.ref (E.1 + S.length) :: st) (j_clr I S.length 0) L G D (S ++ [(21, N)])) : AtJ E X Z U d pc lv (.int n :: st) I L G D S :=
  j_agree (jm_agI E I L G D S) (j_newa (i0 := 1) pc' hd hp hw rfl rfl (by decide) (by decide) (fun _ _ => rfl) hn hN hby (fun k _ => by rw [jm_val_Z rfl]; simp [j_clr, jm_b01]; rfl) kk)
theorem j_nwB {n : Int32} {N : Nat} (pc' : Nat) (hd : decode X.2.1 pc = .ok (.newarray .byte, 2)) (hp : pc + 2 = pc') (hw : Cond.arrayClass .byte ∈ jm_tbl) (hn : ¬ n < 0) (hN : n.toNatClampNeg = N) (hby : N * 1 ≤ 536870912) (kk : AtJ E X Z U d pc' lv (.ref (E.1 + S.length) :: st) (j_clr I S.length 0) L G D (S ++ [(22, N)])) : AtJ E X Z U d pc lv (.int n :: st) I L G D S :=
  j_agree (jm_agI E I L G D S) (j_newa (i0 := 2) pc' hd hp hw rfl rfl (by decide) (by decide) (fun _ _ => rfl) hn hN hby (fun k _ => by rw [jm_val_I rfl]; simp [j_clr]; rfl) kk)
theorem j_nwL {n : Int32} {N : Nat} (pc' : Nat) (hd : decode X.2.1 pc = .ok (.newarray .long, 2)) (hp : pc + 2 = pc') (hw : Cond.arrayClass .long ∈ jm_tbl) (hn : ¬ n < 0) (hN : n.toNatClampNeg = N) (hby : N * 8 ≤ 536870912) (kk : AtJ E X Z U d pc' lv (.ref (E.1 + S.length) :: st) I (j_clr L S.length 0) G D (S ++ [(23, N)])) : AtJ E X Z U d pc lv (.int n :: st) I L G D S :=
  j_agree (jm_agL E I L G D S) (j_newa (i0 := 3) pc' hd hp hw rfl rfl (by decide) (by decide) (fun _ _ => rfl) hn hN hby (fun k _ => by rw [jm_val_L rfl]; simp [j_clr]; rfl) kk)
theorem j_nwO {ci N idx : Nat} {C : String} {T : u_T} {ty : Nat → FieldType} (pc' : Nat) (hd : decode X.2.1 pc = .ok (.new idx, 3)) (hp : pc + 3 = pc') (hc : jm_CL ci C T N ty) (hl1 : Cond.classLink X.1.cls idx C ∈ jm_tbl) (hl2 : Cond.instantiable C N ∈ jm_tbl) (hl3 : Cond.initialized C ∈ jm_tbl) (hz : ∀ k, k < N → (jm_ty ci k = 0 ∧ defaultValue (ty k) = .int 0) ∨ (jm_ty ci k = 1 ∧ defaultValue (ty k) = .long 0) ∨ (jm_ty ci k = 2 ∧ defaultValue (ty k) = .null) ∨ (jm_ty ci k = 3 ∧ defaultValue (ty k) = .int 0) ∨ (jm_ty ci k = 4 ∧ defaultValue (ty k) = .null)) (kk : AtJ E X Z U d pc' lv (.ref (E.1 + S.length) :: st) (j_clr I S.length 0) (j_clr L S.length 0) (j_clr G S.length none) (j_clr D S.length none) (S ++ [(ci, N)])) : AtJ E X Z U d pc lv st I L G D S := by
  refine j_agree (jm_agO E I L G D S) (j_new pc' hd hp hc hl1 hl2 hl3 (fun k hk => ?_) kk)
  rcases hz k hk with ⟨h1, h2⟩ | ⟨h1, h2⟩ | ⟨h1, h2⟩ | ⟨h1, h2⟩ | ⟨h1, h2⟩
  · rw [h2, jm_val_I h1]; simp [j_clr]
  · rw [h2, jm_val_L h1]; simp [j_clr]
  · rw [h2, jm_val_G h1]; simp [j_clr, va_rf]
  · rw [h2, jm_val_Z h1]; simp [j_clr, jm_b01]
  · rw [h2, jm_val_D h1]; simp [j_clr, va_rf]
theorem j_nwA {n : Int32} {N kd i0 idx : Nat} {C : String} (pc' : Nat) (hd : decode X.2.1 pc = .ok (.anewarray idx, 3)) (hp : pc + 3 = pc') (hl1 : Cond.classLink X.1.cls idx C ∈ jm_tbl) (ho : ∀ s, jm_K E s → va_AO C s) (ht : (jm_tyl E.2.2.2)[i0]? = some (E.2.2.2 kd, .object C)) (h1 : 20 ≤ kd) (h2 : kd < 60) (hty : ∀ k, jm_ty kd k = 4) (hn : ¬ n < 0) (hN : n.toNatClampNeg = N) (hby : N * 4 ≤ 536870912) (kk : AtJ E X Z U d pc' lv (.ref (E.1 + S.length) :: st) I L G (j_clr D S.length none) (S ++ [(kd, N)])) : AtJ E X Z U d pc lv (.int n :: st) I L G D S := by
  refine j_agree (jm_agD E I L G D S) ?_
  subst hp hN
  have hk1 := kk.1
  rw [jm_sl_app, List.length_append] at hk1
  simp only [List.length_singleton] at hk1
  refine ⟨⟨by omega, by omega⟩, fun p e Rm s m args below meth c H locs n0 z0 ls hC hR hU hN' hP hS hl => ?_⟩
  have hCC := hC
  obtain ⟨hx, hb, hml, -, -, -, hown, hts, hK⟩ := hCC
  refine W.anew hx hb hown (hts _ hl1) (va_AO.use (ho s hK)) rfl hd rfl hn hby (by omega) (by omega) fun cA kA comp f1 f2 f3 f4 => ?_
  obtain ⟨kA', comp', g1, g2, g3, g4⟩ := (hK.1.2 i0 _ ht).2
  have hcA : cA = E.2.2.2 kd := Option.some.inj (f1.symm.trans g4)
  subst hcA
  generalize hH1 : H.push ({ cls := E.2.2.2 kd, slots := Array.replicate n.toNatClampNeg .null, vm := .none } : Cell) = H1
  have z1 : H1.size = H.size + 1 := by rw [← hH1, Array.size_push]
  have e1 : H1[H.size]? = some (arrV (E.2.2.2 kd) n.toNatClampNeg (fun _ => .null)) := by rw [← hH1, Array.getElem?_push_size, ← arrV_new]
  have o1 : ∀ q : Nat, q < H.size → H1[q]? = H[q]? := fun q hq => by rw [← hH1, Array.getElem?_push, if_neg (Nat.ne_of_lt hq)]
  have hP1 : jm_rep E I L G (j_clr D S.length none) (S ++ [(kd, n.toNatClampNeg)]) H1 := jm_app E I L G _ S (kd, n.toNatClampNeg) hP z1 o1 ⟨fun h => absurd h (by simp; omega), fun _ _ => by
    rw [← hP.1, e1]
    exact congrArg some (jm_fresh (fun k _ => by rw [jm_val_D (hty k)]; simp [j_clr, va_rf]))⟩
  have h := kk.2 p e Rm s m args below meth c H1 locs n0 z0 ls hC hR hU ⟨by simp; omega, by rw [jm_sl_app]; omega, hN'.2.2⟩ hP1 ⟨by rw [z1]; exact Nat.le_succ_of_le hS.1, fun q h3 h4 => by rw [o1 q (Nat.lt_of_lt_of_le h3 hS.1)]; exact hS.2.1 q h3 h4, hS.2.2⟩ hl
  rw [jm_sl_app, List.length_append, List.length_singleton] at h
  rw [show S.length + 1 - n0 = S.length - n0 + 1 by omega, show jm_sl S + n.toNatClampNeg - z0 = jm_sl S - z0 + n.toNatClampNeg by omega] at h
  rw [hP.1]
  exact h
/-- numbers copied from one row to another -/
def j_cpy (I : JI) (a0 sp a dp n : Nat) : JI := fun a' k => if a' = a ∧ (dp ≤ k ∧ k < dp + n) then I a0 (sp + (k - dp)) else I a' k
theorem j_copy {a0 a n0' n1 idx : Nat} {sp dp n : Int32} (pc' : Nat) (hd : decode X.2.1 pc = .ok (.invokestatic idx, 3)) (hp : pc + 3 = pc') (hs0 : S[a0]? = some (20, n0')) (hs1 : S[a]? = some (20, n1)) (hne : a0 ≠ a) (hl1 : Cond.methodLink X.1.cls idx arraycopyName ∈ jm_tbl) (hl2 : Cond.native arraycopyName ∈ jm_tbl) (hl3 : Cond.static arraycopyName ∈ jm_tbl) (hl4 : Cond.initialized "java/lang/System" ∈ jm_tbl)
    (h1 : ¬ sp < 0) (h2 : ¬ dp < 0) (h3 : ¬ n < 0) (h4 : sp.toNatClampNeg + n.toNatClampNeg ≤ n0') (h5 : dp.toNatClampNeg + n.toNatClampNeg ≤ n1) (hdd : 1 ≤ d) (hrest : (st.map fun v => v.category).sum ≤ 8) (hnat : nativeFrameWords "java/lang/System" "arraycopy" 5 + 11 ≤ 56)
    (kk : AtJ E X Z U d pc' lv st (j_cpy I a0 sp.toNatClampNeg a dp.toNatClampNeg n.toNatClampNeg) L G D S) : AtJ E X Z U d pc lv (.int n :: .int dp :: .ref (E.1 + a) :: .int sp :: .ref (E.1 + a0) :: st) I L G D S := by
  subst hp
  refine ⟨kk.1, fun p e Rm s m args below meth c H locs n0 z0 ls hC hR hU hN hP hS hl => ?_⟩
  have hCC := hC
  obtain ⟨hx, hb, hml, -, -, -, hown, hts, hK⟩ := hCC
  have nn : ∀ z : Int32, ¬ z < 0 → z.toInt = (z.toNatClampNeg : Int) := by
    intro z hz
    have hz0 : (0 : Int) ≤ z.toInt := by
      have := Int32.not_lt.mp hz
      simpa using Int32.le_iff_toInt_le.mp this
    show z.toInt = ((z.toInt.toNat : Nat) : Int)
    omega
  intro T hT X0
  have hv : ∀ b : Nat, jm_val E.1 I L G D 20 b = fun j => Value.int (I b j) := fun b => funext fun j => jm_val_I rfl
  have hc0 : H[E.1 + a0]? = some (vp_cell (E.2.2.2 20) (n0', .inl (I a0))) := by rw [vp_cell_i, ← hv]; exact jm_ar hP hs0 (by decide) (by decide)
  have hc1 : H[E.1 + a]? = some (vp_cell (E.2.2.2 20) (n1, .inl (I a))) := by rw [vp_cell_i, ← hv]; exact jm_ar hP hs1 (by decide) (by decide)
  obtain ⟨-, k0, hk0, cm0, hkk0⟩ := (hK.1.2 0 _ rfl).1 n0' (fun j => .int (I a0 j))
  obtain ⟨-, k1, hk1, cm1, hkk1⟩ := (hK.1.2 0 _ rfl).1 n1 (fun j => .int (I a j))
  obtain ⟨vm', X', step⟩ := X0.arraycopy hx hown (hts _ hl1) (hts _ hl2) (hts _ hl3) (hts _ hl4) (src := E.1 + a0) (dst := E.1 + a) (cs := vp_cell (E.2.2.2 20) (n0', .inl (I a0))) (cd := vp_cell (E.2.2.2 20) (n1, .inl (I a))) (srcPos := sp) (destPos := dp) (n := n) (by rw [hT]; exact hc0) (by rw [hT]; exact hc1)
    (fun _ h => by cases h) (fun _ h => by cases h) (fun h => by cases h) (fun h => by cases h) hk0 hk1 hkk0 hkk1 (by simp [refKind]) h1 h2 h3
    (by rw [nn sp h1, nn n h3]; show ¬ _ > ((arrV (E.2.2.2 20) n0' (fun j => .int (I a0 j))).slots.size : Int); rw [arrV_size]; omega)
    (by rw [nn dp h2, nn n h3]; show ¬ _ > ((arrV (E.2.2.2 20) n1 (fun j => .int (I a j))).slots.size : Int); rw [arrV_size]; omega)
    (fun vm₁ _ i hi => by
      have e : (vp_cell (E.2.2.2 20) (n0', .inl (I a0))).slots.getD (sp.toNatClampNeg + i) .null = .int (I a0 (sp.toNatClampNeg + i)) := by
        show (arrV (E.2.2.2 20) n0' (fun j => .int (I a0 j))).slots.getD _ _ = _
        rw [Array.getD_eq_getD_getElem?, arrV_read _ _ (by omega)]
        rfl
      refine ⟨?_, ?_⟩
      · rw [e]
        rfl
      · rw [e]
        exact trivial)
    (g := F0 m pc ls (.int n :: .int dp :: .ref (E.1 + a) :: .int sp :: .ref (E.1 + a0) :: st)) rfl (by rw [hml]; exact hl.1) (rest := st) rfl (by rw [hb]; exact hd) (by omega) (by show 2 * 0 + _ + _ ≤ _; omega)
  have e1 : copied (vp_cell (E.2.2.2 20) (n0', .inl (I a0))) (vp_cell (E.2.2.2 20) (n1, .inl (I a))) sp dp n = vp_cell (E.2.2.2 20) (n1, .inl (va_cpy (I a0) (I a) sp.toNatClampNeg dp.toNatClampNeg n.toNatClampNeg)) := va_copied (fun z => .int z) _ _ _ _ h4
  rw [e1] at X' step
  have hlt : E.1 + a < H.size := (Array.getElem?_eq_some_iff.mp hc1).1
  have hheap : ((T.setVm vm').setCell (E.1 + a) (vp_cell (E.2.2.2 20) (n1, .inl (va_cpy (I a0) (I a) sp.toNatClampNeg dp.toNatClampNeg n.toNatClampNeg)))).heap = H.setIfInBounds (E.1 + a) (vp_cell (E.2.2.2 20) (n1, .inl (va_cpy (I a0) (I a) sp.toNatClampNeg dp.toNatClampNeg n.toNatClampNeg))) := by rw [← hT]; rfl
  have oq : ∀ q : Nat, q ≠ E.1 + a → (H.setIfInBounds (E.1 + a) (vp_cell (E.2.2.2 20) (n1, .inl (va_cpy (I a0) (I a) sp.toNatClampNeg dp.toNatClampNeg n.toNatClampNeg))))[q]? = H[q]? := fun q hq => by simp [Array.getElem?_setIfInBounds, Ne.symm hq]
  have hP1 : jm_rep E (j_cpy I a0 sp.toNatClampNeg a dp.toNatClampNeg n.toNatClampNeg) L G D S (H.setIfInBounds (E.1 + a) (vp_cell (E.2.2.2 20) (n1, .inl (va_cpy (I a0) (I a) sp.toNatClampNeg dp.toNatClampNeg n.toNatClampNeg)))) := by
    refine jm_rep_set hP hs1 (by simp) oq ⟨fun h => absurd h (by simp), fun _ _ => ?_⟩ (fun kd a' j h => by simp [jm_val, j_cpy, h])
    rw [show (H.setIfInBounds (E.1 + a) (vp_cell (E.2.2.2 20) (n1, .inl (va_cpy (I a0) (I a) sp.toNatClampNeg dp.toNatClampNeg n.toNatClampNeg))))[E.1 + a]? = some (vp_cell (E.2.2.2 20) (n1, .inl (va_cpy (I a0) (I a) sp.toNatClampNeg dp.toNatClampNeg n.toNatClampNeg))) by simp [Array.getElem?_setIfInBounds, hlt], vp_cell_i]
    congr 2
    funext j
    rw [jm_val_I rfl]
    simp [j_cpy, va_cpy]
  obtain ⟨t, a1, b1⟩ := kk.2 p e Rm s m args below meth c _ _ n0 z0 ls hC hR hU hN hP1 ⟨by simp; exact hS.1, fun q g1 g2 => by
      rw [oq q (fun e => g2 (by rw [e]; show E.1 ≤ _; omega))]
      exact hS.2.1 q g1 g2, fun q hq => by
      rcases List.mem_append.mp hq with h | h
      · exact hS.2.2 q h
      · obtain ⟨z, -, hz⟩ := List.mem_map.mp h
        rw [← hz]
        show E.1 ≤ _
        simp⟩ hl _ hheap X'
  exact ⟨t, step t a1, b1⟩

end JR
