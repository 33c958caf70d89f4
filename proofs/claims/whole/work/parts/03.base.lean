/-! BASE: words, contracts in one form, call rows over them -/
/-- words that the tables' own words give: selection of a private method of a superclass -/
def TX : List Cond := [.selects R_SB y_AB_ensureCapacityInternal y_AB_ensureCapacityInternal, .selects R_SB y_AB_newCapacity y_AB_newCapacity]
def TG : List Cond := lw_tbl.filter goodWord ++ TX
theorem TG_good {w : Cond} (h : w ∈ TG) : goodWord w = true := (List.mem_append.mp h).elim (fun q => (List.mem_filter.mp q).2) (fun q => by
  simp only [TX, List.mem_cons, List.not_mem_nil, or_false] at q
  rcases q with rfl | rfl <;> decide +kernel)
theorem TG_of {w : Cond} (i : Nat) (h : tables_1[i]? = some w) (g : goodWord w = true) : w ∈ TG := List.mem_append_left _ (List.mem_filter.mpr ⟨List.mem_append_right _ (List.mem_of_getElem? h), g⟩)
theorem TG_sel {w : Cond} (i : Nat) (h : (k2_sels lw_privs)[i]? = some w) (g : goodWord w = true) : w ∈ TG := List.mem_append_left _ (List.mem_filter.mpr ⟨List.mem_append_left _ (List.mem_of_getElem? h), g⟩)
theorem TG_x {w : Cond} (i : Nat) (h : TX[i]? = some w) (_ : goodWord w = true) : w ∈ TG := List.mem_append_right _ (List.mem_of_getElem? h)
abbrev wM (y : MethodName) (c : ByteArray) (n : Nat) (r : Option FieldType) : List Cond := .code y c n r :: TG
theorem g_I {y : MethodName} {c : ByteArray} {n : Nat} {r : Option FieldType} (h : Cond.code y c n r ∈ TG) : GoodIn TG (wM y c n r) := fun w hw => (List.mem_cons.mp hw).elim (fun e => by rw [e]; exact ⟨h, good_of_word (TG_good h)⟩) (fun q => ⟨q, good_of_word (TG_good q)⟩)
theorem g_app {a b : List Cond} (ha : ∀ w ∈ a, w ∈ TG) (hb : GoodIn TG b) : GoodIn TG (a ++ b) := fun w h => (List.mem_append.mp h).elim (fun q => ⟨ha w q, good_of_word (TG_good (ha w q))⟩) (hb w)
theorem g_V {own C : String} {idx : Nat} {y : MethodName} {c : ByteArray} {n : Nat} {r : Option FieldType} (h1 : Cond.methodLink own idx y ∈ TG) (h2 : Cond.instanceMethod y ∈ TG) (h3 : Cond.selects C y y ∈ TG) (h4 : Cond.initialized C ∈ TG) (h5 : Cond.code y c n r ∈ TG) : GoodIn TG (wsV own idx C y (wM y c n r)) := by
  refine g_app (fun w hw => ?_) (g_I h5)
  simp only [List.mem_cons, List.not_mem_nil, or_false] at hw
  rcases hw with rfl | rfl | rfl | rfl <;> assumption
theorem g_S {own : String} {idx : Nat} {y : MethodName} {c : ByteArray} {n : Nat} {r : Option FieldType} (h1 : Cond.methodLink own idx y ∈ TG) (h2 : Cond.static y ∈ TG) (h4 : Cond.initialized y.cls ∈ TG) (h5 : Cond.code y c n r ∈ TG) : GoodIn TG (va_wsS own idx y (wM y c n r)) := by
  refine g_app (fun w hw => ?_) (g_I h5)
  simp only [List.mem_cons, List.not_mem_nil, or_false] at hw
  rcases hw with rfl | rfl | rfl <;> assumption
def tabO : List Int32 := [48, 49, 50, 51, 52, 53, 54, 55, 56, 57, 48, 49, 50, 51, 52, 53, 54, 55, 56, 57, 48, 49, 50, 51, 52, 53, 54, 55, 56, 57, 48, 49, 50, 51, 52, 53, 54, 55, 56, 57, 48, 49, 50, 51, 52, 53, 54, 55, 56, 57, 48, 49, 50, 51, 52, 53, 54, 55, 56, 57, 48, 49, 50, 51, 52, 53, 54, 55, 56, 57, 48, 49, 50, 51, 52, 53, 54, 55, 56, 57, 48, 49, 50, 51, 52, 53, 54, 55, 56, 57, 48, 49, 50, 51, 52, 53, 54, 55, 56, 57]
def tabT : List Int32 := [48, 48, 48, 48, 48, 48, 48, 48, 48, 48, 49, 49, 49, 49, 49, 49, 49, 49, 49, 49, 50, 50, 50, 50, 50, 50, 50, 50, 50, 50, 51, 51, 51, 51, 51, 51, 51, 51, 51, 51, 52, 52, 52, 52, 52, 52, 52, 52, 52, 52, 53, 53, 53, 53, 53, 53, 53, 53, 53, 53, 54, 54, 54, 54, 54, 54, 54, 54, 54, 54, 55, 55, 55, 55, 55, 55, 55, 55, 55, 55, 56, 56, 56, 56, 56, 56, 56, 56, 56, 56, 57, 57, 57, 57, 57, 57, 57, 57, 57, 57]
def gD (nm : String) (tb : List Int32) (A : Nat → Prop) (U : State) (H : Heap) : Prop := ∃ t : Nat, va_Z "java/lang/Integer" nm "[B" (.ref t) A U H ∧ va_T .byte t 100 (fun j => .int (tb.getD j 0)) A U H
/-- what every method is given beside its world: the nest mates' links, the JDK's statics -/
def gN (A : Nat → Prop) (U : State) (H : Heap) : Prop := (∀ q ∈ nestL, va_Nw (.methodLinkNest q.1 q.2.1 q.2.2.1 q.2.2.2) U) ∧ va_Z "java/lang/String" "COMPACT_STRINGS" "Z" (.int 1) A U H ∧ va_Zq "jdk/internal/util/Preconditions" "SIOOBE_FORMATTER" "Ljava/util/function/BiFunction;" A U H ∧ gD "DigitOnes" tabO A U H ∧ gD "DigitTens" tabT A U H
theorem gD.go {nm : String} {tb : List Int32} {A A' : Nat → Prop} {s U : State} {H H1 : Heap} (h : gD nm tb A s H) (hq : ∀ a : Nat, a < H.size → ¬ A a → H1[a]? = H[a]?) (hF : ∀ q, A' q → A q) (hW : s.vm.Alike U.vm) : gD nm tb A' U H1 := by
  obtain ⟨t, h1, h2⟩ := h
  exact ⟨t, ((h1.moved hW).kept hq).narrow hF, ((h2.moved hW).kept hq).narrow hF⟩
theorem gN.call {A A' : Nat → Prop} {s U : State} {H : Heap} {locs : List Loc} (h : gN A s s.heap) (hS : va_S A s.heap H locs) (hF : ∀ q, A' q → A q) (hU : U.heap = H) (hW : s.WarmedH U.vm) : gN A' U U.heap := by
  obtain ⟨h1, h2, h3, h4, h5⟩ := h
  rw [hU]
  exact ⟨fun q hq => va_Nw.warmM hW (h1 q hq), ((h2.moved hW.alike).kept hS.2.1).narrow hF, ((h3.moved hW.alike).kept hS.2.1).narrow hF, h4.go hS.2.1 hF hW.alike, h5.go hS.2.1 hF hW.alike⟩
theorem gN.blind {A : Nat → Prop} {U : State} {g : JFrame} {mk : MethodId} {a : Array Value} (h : gN A U U.heap) : gN A (U.calling g mk a) (U.calling g mk a).heap := by
  obtain ⟨h1, h2, h3, h4, h5⟩ := h
  exact ⟨fun q hq => va_Nw.same rfl (show U.vm = (U.calling g mk a).vm from rfl) (h1 q hq), h2.moved (u := U) (U := U.calling g mk a) (Vm.Alike.refl U.vm), h3.moved (u := U) (U := U.calling g mk a) (Vm.Alike.refl U.vm), h4.go (U := U.calling g mk a) (fun _ _ _ => rfl) (fun _ h => h) (Vm.Alike.refl U.vm), h5.go (U := U.calling g mk a) (fun _ _ _ => rfl) (fun _ h => h) (Vm.Alike.refl U.vm)⟩
def gPre (D : va_G) (tys : List (ClassId × FieldType)) (wc : va_W) (sz : Nat) (U : State) : Prop := U.heap.size = sz ∧ gN (va_A wc sz) U U.heap ∧ va_P D cls wc U.heap ∧ va_K D cls tys U ∧ va_D (fun _ => True) wc
theorem gPre.blind {D : va_G} {tys : List (ClassId × FieldType)} {av : List Value} {wc : va_W} {sz : Nat} : FrameBlind (va_Pc av (gPre D tys wc sz)) := fun a U g mk q => by
  obtain ⟨q0, q1, qN, qP, qK, qD⟩ := q
  exact ⟨q0, q1, qN.blind, qP, va_K.moved (u := U) (U := U.calling g mk a) (Vm.Alike.refl U.vm) qK, qD⟩
def gB (D : va_G) (tys : List (ClassId × FieldType)) (A : Nat → Prop) (w : va_W) (t : State) : Prop := va_P D cls w t.heap ∧ va_K D cls tys t ∧ va_D A w
def CTi {V B : Type} (l : Launch) (y : MethodName) (ws : List Cond) (rm : Room) (mc ms : Nat) (D : va_G) (tys : List (ClassId × FieldType)) (av : List Value) (wc : va_W) (sz : Nat) (Q : Int32 → V → Prop) (w1 : V → B → va_W) : Prop :=
  Met l y ws rm (va_Pc av (gPre D tys wc sz)) (va_Qi (fun r (u : V × B) => Q r u.1) (fun u t => gB D tys (va_A wc sz) (w1 u.1 u.2) t) (va_A wc sz)) mc ms (va_A wc sz)
def CTv {V B : Type} (l : Launch) (y : MethodName) (ws : List Cond) (rm : Room) (mc ms : Nat) (D : va_G) (tys : List (ClassId × FieldType)) (av : List Value) (wc : va_W) (sz : Nat) (Q : V → Prop) (w1 : V → B → va_W) : Prop :=
  Met l y ws rm (va_Pc av (gPre D tys wc sz)) (va_Qv (fun (u : V × B) => Q u.1) (fun u t => gB D tys (va_A wc sz) (w1 u.1 u.2) t) (va_A wc sz)) mc ms (va_A wc sz)
def CTr {V B : Type} (l : Launch) (y : MethodName) (ws : List Cond) (rm : Room) (mc ms : Nat) (D : va_G) (tys : List (ClassId × FieldType)) (av : List Value) (wc : va_W) (sz : Nat) (Q : V → Prop) (w1 : V → B → va_W) (ra : V → B → Nat) : Prop :=
  Met l y ws rm (va_Pc av (gPre D tys wc sz)) (va_Qr (fun (u : V × B) => Q u.1) (fun u a t => a = ra u.1 u.2 ∧ gB D tys (va_A wc sz) (w1 u.1 u.2) t) (va_A wc sz)) mc ms (va_A wc sz)
/-- what stands fixed through a method's walk -/
def gC (p : Program) (s : State) (m : MethodId) (meth : Method) (c : Code) (cc : ByteArray) (maxL : Nat) (ret : Option FieldType) (y : MethodName) (args : Array Value) (A : Nat → Prop) (D : va_G) (tys : List (ClassId × FieldType)) : Prop :=
  p.tables.exec = Jvm.exec ∧ c.code = cc ∧ meth.sig.returnType = ret ∧ c.maxLocals = maxL ∧ s.vm.findClass y.cls = some m.cls ∧ (∀ w ∈ TG, w.before args s = true) ∧ meth.locks = false ∧ gN A s s.heap ∧ (∀ q : Nat, s.heap.size ≤ q → A q) ∧ va_K D cls tys s
theorem Met.std {l : Launch} {y : MethodName} {rm : Room} {mc ms : Nat} {D : va_G} {tys : List (ClassId × FieldType)} {av : List Value} {wc : va_W} {sz : Nat} {cc : ByteArray} {maxL : Nat} {ret : Option FieldType} {Qf : (Nat → Prop) → Array Value → State → Outcome → State → Prop}
    (hy : plainName y.cls = true) (hlen : (lg_sl av).length ≤ maxL)
    (body : ∀ (p : Program) (e : Env) (s : State) (m : MethodId) (below : List Frame) (meth : Method) (c : Code) (A : Nat → Prop) (ls : Array Slot), gC p s m meth c cc maxL ret y av.toArray A D tys → va_P D cls wc s.heap → va_D A wc → lv_has ls maxL (lv_args 0 av) → va_S A s.heap s.heap [] → s.heap.size = sz → meth.name = y.name →
      W p l e rm s m av.toArray below meth c s.heap [] 0 0 (MQ below (Qf A) av.toArray s mc ms A) (F0 m 0 ls [])) :
    Met l y (wM y cc maxL ret) rm (va_Pc av (gPre D tys wc sz)) (Qf (va_A wc sz)) mc ms (va_A wc sz) := by
  refine Met.ofW (cc := cc) (maxL := maxL) (ret := ret) hy rfl ?_
  intro p e s m args below meth c s₁ B hml hv
  obtain ⟨rfl, hsz, hN, hP, hK, hD0⟩ := hv
  have hts := atoms_spec (ws := wM y cc maxL ret) B.pre
  have hl := lv_entry av (n := maxL) hlen
  rw [lg_entry_eq]
  exact body p e s m below meth c (va_A wc sz) _ ⟨B.exec, B.bytes, B.returns, hml, findClass_of_methodNamed B.named, fun w h => hts w (List.mem_cons_of_mem _ h), B.notSynchronized, hN, fun q h => Or.inr (by rw [← hsz]; exact h), hK⟩ hP (hD0.self (sz := sz)) hl va_S.rf hsz (name_of_methodNamed B.named B.method).1
section BRT
variable {p : Program} {l : Launch} {e : Env} {R : Room} {s : State} {m : MethodId} {args : Array Value} {below : List Frame} {meth : Method} {c : Code} {H : Heap} {locs : List Loc} {cells slots : Nat} {A : Nat → Prop} {D : va_G} {tys : List (ClassId × FieldType)} {cc : ByteArray} {maxL : Nat} {ret : Option FieldType} {y : MethodName} {pc : Nat} {ls : Array Slot}
theorem ret_i {V B : Type} {Q : Int32 → V → Prop} {w1 : V → B → va_W} {x : Int32} {ty : FieldType} (C0 : gC p s m meth c cc maxL (some ty) y args A D tys) (v : V) (b : B) (hn : narrow ty (.int x) = .int x) (hQ : Q x v) (hP : va_P D cls (w1 v b) H) (hD : va_D A (w1 v b)) (hS : va_S A s.heap H locs) (hdg : decode cc pc = .ok (.ireturn, 1)) :
    W p l e R s m args below meth c H locs cells slots (MQ below (va_Qi (fun r (u : V × B) => Q r u.1) (fun u t => gB D tys A (w1 u.1 u.2) t) A) args s cells slots A) (F0 m pc ls [.int x]) := by
  obtain ⟨hx, hb, hr, hml, hown, hts, hlocks, hN, hA, hK⟩ := C0
  exact W.zret (ty := ty) hx hb hr hn (fun t ht hW => ⟨⟨x, (v, b), rfl, hQ, by rw [ht]; exact hP, va_K.moved hW.alike hK, hD⟩, hS.F ht⟩) hS.2.2 hdg
theorem ret_v {V B : Type} {Q : V → Prop} {w1 : V → B → va_W} (C0 : gC p s m meth c cc maxL none y args A D tys) (v : V) (b : B) (hQ : Q v) (hP : va_P D cls (w1 v b) H) (hD : va_D A (w1 v b)) (hS : va_S A s.heap H locs) (hdg : decode cc pc = .ok (.return_, 1)) :
    W p l e R s m args below meth c H locs cells slots (MQ below (va_Qv (fun (u : V × B) => Q u.1) (fun u t => gB D tys A (w1 u.1 u.2) t) A) args s cells slots A) (F0 m pc ls []) := by
  obtain ⟨hx, hb, hr, hml, hown, hts, hlocks, hN, hA, hK⟩ := C0
  exact W.vret hx hb hr (fun t ht hW => ⟨⟨(v, b), rfl, hQ, by rw [ht]; exact hP, va_K.moved hW.alike hK, hD⟩, hS.F ht⟩) hS.2.2 hdg
theorem ret_r {V B : Type} {Q : V → Prop} {w1 : V → B → va_W} {ra : V → B → Nat} {ty : FieldType} (hty : (∃ n, ty = .object n) ∨ ∃ t, ty = .array t) (C0 : gC p s m meth c cc maxL (some ty) y args A D tys) (v : V) (b : B) (hQ : Q v) (hP : va_P D cls (w1 v b) H) (hD : va_D A (w1 v b)) (hS : va_S A s.heap H locs) (hdg : decode cc pc = .ok (.areturn, 1)) :
    W p l e R s m args below meth c H locs cells slots (MQ below (va_Qr (fun (u : V × B) => Q u.1) (fun u a t => a = ra u.1 u.2 ∧ gB D tys A (w1 u.1 u.2) t) A) args s cells slots A) (F0 m pc ls [.ref (ra v b)]) := by
  obtain ⟨hx, hb, hr, hml, hown, hts, hlocks, hN, hA, hK⟩ := C0
  exact W.aret hx hb hr hty (Or.inr ⟨_, rfl⟩) (fun t ht hW => ⟨⟨(v, b), ra v b, rfl, hQ, rfl, by rw [ht]; exact hP, va_K.moved hW.alike hK, hD⟩, hS.F ht⟩) hS.2.2 hdg
end BRT
theorem kon_fm {α β : Type} {f : α → Option β} {is : List α} {w : List β} (h : is.map f = w.map some) : is.filterMap f = w := by
  have h1 : is.filterMap f = (is.map f).filterMap id := by rw [List.filterMap_map]; rfl
  rw [h1, h, List.filterMap_map]
  induction w with
  | nil => rfl
  | cons a l ih => simp
section BCL
variable {p : Program} {l : Launch} {e : Env} {R : Room} {s : State} {m : MethodId} {args : Array Value} {below : List Frame} {meth : Method} {c : Code} {H : Heap} {locs : List Loc} {cells slots : Nat} {A : Nat → Prop} {D : va_G} {tys : List (ClassId × FieldType)} {cc : ByteArray} {nL : Nat} {ret0 : Option FieldType} {y0 : MethodName} {pc : Nat} {ls : Array Slot} {Qw : State → Prop}
variable {y : MethodName} {bytes : ByteArray} {maxL mc ms n idx : Nat} {ret : Option FieldType} {rm : Room} {Qc : Array Value → State → Outcome → State → Prop} {b : Nat} {As rest st0 : List Value} {ws wc : va_W} {C : String}
theorem run_V (C0 : gC p s m meth c cc nL ret0 y0 args A D tys) (hP : va_P D cls wc H) (hD : va_D A wc) (hS : va_S A s.heap H locs) (hF : ∀ q, va_A wc H.size q → A q) {ci : Nat} {fs : List Value} {q : vw_C} (hc : cls[ci]? = some q) (he : wc[0]? = some (b, .inr (ci, fs)))
    (hM : Met l y (wM y bytes maxL ret) rm (va_Pc (.ref b :: As) (gPre D tys wc H.size)) Qc mc ms (va_A wc H.size)) (hg : GoodIn TG (wsV y0.cls idx q.1 y (wM y bytes maxL ret))) (hd : y.cls = q.1 ∧ y.cls ≠ "java/lang/invoke/MethodHandle" ∧ y.cls ≠ "java/lang/invoke/VarHandle" ∧ (parseMethodDescriptor y.desc).map (fun d => d.parameters.length) = some As.length) (hrc : rm.cells = mc) (hrs : rm.slots = ms) (hR : rm.frames + 1 ≤ R.frames ∧ 8 + (maxL + 11) + rm.locals ≤ R.locals)
    (hsize : ls.size = nL) (hst : st0 = As.reverse ++ .ref b :: rest) (hroom : (rest.map fun v => v.category).sum ≤ 8) (hdg : decode cc pc = .ok (.invokevirtual idx, 3)) (hf : cells + mc ≤ R.cells ∧ slots + ms ≤ R.slots) :
    va_Run p l e R s m args below meth c H locs cells slots mc ms (F0 m pc ls st0) rest (Qc (Value.ref b :: As).toArray) (va_A wc H.size) := by
  obtain ⟨hx, hb, hr, hml, hown, hts, hlocks, hN, hA, hK⟩ := C0
  exact va_runV (As := As) (rest := rest) ⟨hx, hb, hml, hown, hts⟩ hM (cwV As.length hts hg rfl hrc hrs hd hR) ⟨gPre.blind, va_recv hK hP hc he, fun U hU hW => ⟨rfl, by rw [hU], hN.call hS hF hU hW, by rw [hU]; exact hP, va_K.moved hW.alike hK, hD.weaken (fun _ _ _ _ => trivial)⟩⟩ rfl rfl hsize hst (lv_room hroom) hdg hf
theorem run_S (C0 : gC p s m meth c cc nL ret0 y0 args A D tys) (hP : va_P D cls wc H) (hD : va_D A wc) (hS : va_S A s.heap H locs) (hF : ∀ q, va_A wc H.size q → A q)
    (hM : Met l y (wM y bytes maxL ret) rm (va_Pc As (gPre D tys wc H.size)) Qc mc ms (va_A wc H.size)) (hg : GoodIn TG (va_wsS y0.cls idx y (wM y bytes maxL ret))) (hd : y.cls ≠ "java/lang/invoke/MethodHandle" ∧ y.cls ≠ "java/lang/invoke/VarHandle" ∧ (parseMethodDescriptor y.desc).map (fun d => d.parameters.length) = some As.length) (hrc : rm.cells = mc) (hrs : rm.slots = ms) (hR : rm.frames + 1 ≤ R.frames ∧ 8 + (maxL + 11) + rm.locals ≤ R.locals)
    (hsize : ls.size = nL) (hst : st0 = As.reverse ++ rest) (hroom : (rest.map fun v => v.category).sum ≤ 8) (hdg : decode cc pc = .ok (.invokestatic idx, 3)) (hf : cells + mc ≤ R.cells ∧ slots + ms ≤ R.slots) :
    va_Run p l e R s m args below meth c H locs cells slots mc ms (F0 m pc ls st0) rest (Qc As.toArray) (va_A wc H.size) := by
  obtain ⟨hx, hb, hr, hml, hown, hts, hlocks, hN, hA, hK⟩ := C0
  have hg' := fun w h => (hg w (by unfold va_wsS; exact List.mem_append_left _ h)).1
  exact va_runS (As := As) (rest := rest) ⟨hx, hb, hml, hown, hts⟩ hM ⟨callB_of As.length hts (fun w h => hg w (by unfold va_wsS; exact List.mem_append_right _ h)) rfl hrc hrs (hts _ (hg' _ (by simp))) (hts _ (hg' _ (by simp))) hd hR, hts _ (hg' _ (by simp))⟩ ⟨gPre.blind, fun U hU hW => ⟨rfl, by rw [hU], hN.call hS hF hU hW, by rw [hU]; exact hP, va_K.moved hW.alike hK, hD.weaken (fun _ _ _ _ => trivial)⟩⟩ rfl rfl hsize hst (lv_room hroom) hdg hf
theorem run_SN {host : String} (C0 : gC p s m meth c cc nL ret0 y0 args A D tys) (hP : va_P D cls wc H) (hD : va_D A wc) (hS : va_S A s.heap H locs) (hF : ∀ q, va_A wc H.size q → A q)
    (hM : Met l y (wM y bytes maxL ret) rm (va_Pc As (gPre D tys wc H.size)) Qc mc ms (va_A wc H.size)) (hnl : (y0.cls, idx, y, host) ∈ nestL) (h2 : Cond.static y ∈ TG) (h4 : Cond.initialized y.cls ∈ TG) (h5 : Cond.code y bytes maxL ret ∈ TG) (hd : y.cls ≠ "java/lang/invoke/MethodHandle" ∧ y.cls ≠ "java/lang/invoke/VarHandle" ∧ (parseMethodDescriptor y.desc).map (fun d => d.parameters.length) = some As.length) (hrc : rm.cells = mc) (hrs : rm.slots = ms) (hR : rm.frames + 1 ≤ R.frames ∧ 8 + (maxL + 11) + rm.locals ≤ R.locals)
    (hsize : ls.size = nL) (hst : st0 = As.reverse ++ rest) (hroom : (rest.map fun v => v.category).sum ≤ 8) (hdg : decode cc pc = .ok (.invokestatic idx, 3)) (hf : cells + mc ≤ R.cells ∧ slots + ms ≤ R.slots) :
    va_Run p l e R s m args below meth c H locs cells slots mc ms (F0 m pc ls st0) rest (Qc As.toArray) (va_A wc H.size) := by
  obtain ⟨hx, hb, hr, hml, hown, hts, hlocks, hN, hA, hK⟩ := C0
  exact va_runSN (host := host) (As := As) (rest := rest) ⟨hx, hb, hml, hown, hts⟩ hM ⟨va_cnB As.length hts (g_I h5) rfl hrc hrs (hN.1 _ hnl) (hts _ h4) hd hR, hts _ h2, trivial⟩ ⟨gPre.blind, fun U hU hW => ⟨rfl, by rw [hU], hN.call hS hF hU hW, by rw [hU]; exact hP, va_K.moved hW.alike hK, hD.weaken (fun _ _ _ _ => trivial)⟩⟩ rfl rfl hsize hst (lv_room hroom) hdg hf
theorem run_I (C0 : gC p s m meth c cc nL ret0 y0 args A D tys) (hP : va_P D cls wc H) (hD : va_D A wc) (hS : va_S A s.heap H locs) (hF : ∀ q, va_A wc H.size q → A q)
    (hM : Met l y (wM y bytes maxL none) rm (va_Pc (.ref b :: As) (gPre D tys wc H.size)) Qc mc ms (va_A wc H.size)) (h1 : Cond.methodLink y0.cls idx y ∈ TG) (h2 : Cond.instanceMethod y ∈ TG) (h4 : Cond.initialized y.cls ∈ TG) (h5 : Cond.code y bytes maxL none ∈ TG) (hy : y.name = "<init>") (hd : y.cls ≠ "java/lang/invoke/MethodHandle" ∧ y.cls ≠ "java/lang/invoke/VarHandle" ∧ (parseMethodDescriptor y.desc).map (fun d => d.parameters.length) = some As.length) (hrc : rm.cells = mc) (hrs : rm.slots = ms) (hR : rm.frames + 1 ≤ R.frames ∧ 8 + (maxL + 11) + rm.locals ≤ R.locals)
    (hsize : ls.size = nL) (hst : st0 = As.reverse ++ .ref b :: rest) (hroom : (rest.map fun v => v.category).sum ≤ 8) (hdg : decode cc pc = .ok (.invokespecial idx, 3)) (hf : cells + mc ≤ R.cells ∧ slots + ms ≤ R.slots) :
    va_Run p l e R s m args below meth c H locs cells slots mc ms (F0 m pc ls st0) rest (Qc (Value.ref b :: As).toArray) (va_A wc H.size) := by
  obtain ⟨hx, hb, hr, hml, hown, hts, hlocks, hN, hA, hK⟩ := C0
  exact va_runI (As := As) (rest := rest) ⟨hx, hb, hml, hown, hts⟩ hM (cwI As.length hts (g_I h5) rfl hrc hrs (hts _ h4) (hts _ h1) (hts _ h2) hy hd hR) ⟨gPre.blind, fun U hU hW => ⟨rfl, by rw [hU], hN.call hS hF hU hW, by rw [hU]; exact hP, va_K.moved hW.alike hK, hD.weaken (fun _ _ _ _ => trivial)⟩⟩ rfl rfl hsize hst (lv_room hroom) hdg hf
theorem run_IN {host : String} (C0 : gC p s m meth c cc nL ret0 y0 args A D tys) (hP : va_P D cls wc H) (hD : va_D A wc) (hS : va_S A s.heap H locs) (hF : ∀ q, va_A wc H.size q → A q)
    (hM : Met l y (wM y bytes maxL none) rm (va_Pc (.ref b :: As) (gPre D tys wc H.size)) Qc mc ms (va_A wc H.size)) (hnl : (y0.cls, idx, y, host) ∈ nestL) (h2 : Cond.instanceMethod y ∈ TG) (h4 : Cond.initialized y.cls ∈ TG) (h5 : Cond.code y bytes maxL none ∈ TG) (hy : y.name = "<init>") (hd : y.cls ≠ "java/lang/invoke/MethodHandle" ∧ y.cls ≠ "java/lang/invoke/VarHandle" ∧ (parseMethodDescriptor y.desc).map (fun d => d.parameters.length) = some As.length) (hrc : rm.cells = mc) (hrs : rm.slots = ms) (hR : rm.frames + 1 ≤ R.frames ∧ 8 + (maxL + 11) + rm.locals ≤ R.locals)
    (hsize : ls.size = nL) (hst : st0 = As.reverse ++ .ref b :: rest) (hroom : (rest.map fun v => v.category).sum ≤ 8) (hdg : decode cc pc = .ok (.invokespecial idx, 3)) (hf : cells + mc ≤ R.cells ∧ slots + ms ≤ R.slots) :
    va_Run p l e R s m args below meth c H locs cells slots mc ms (F0 m pc ls st0) rest (Qc (Value.ref b :: As).toArray) (va_A wc H.size) := by
  obtain ⟨hx, hb, hr, hml, hown, hts, hlocks, hN, hA, hK⟩ := C0
  exact va_runIN (host := host) (As := As) (rest := rest) ⟨hx, hb, hml, hown, hts⟩ hM ⟨va_cnB As.length hts (g_I h5) rfl hrc hrs (hN.1 _ hnl) (hts _ h4) hd hR, hy, hts _ h2⟩ ⟨gPre.blind, fun U hU hW => ⟨rfl, by rw [hU], hN.call hS hF hU hW, by rw [hU]; exact hP, va_K.moved hW.alike hK, hD.weaken (fun _ _ _ _ => trivial)⟩⟩ rfl rfl hsize hst (lv_room hroom) hdg hf
theorem selp {C : String} {x y : MethodName} (hxy : y.cls = x.cls) (hy : y.cls ≠ "java/lang/invoke/MethodHandle" ∧ y.cls ≠ "java/lang/invoke/VarHandle") (h1 : (Cond.selects C x x).before args s = true) (hpriv : (Cond.privateMethod y).before args s = true) (hinst : (Cond.instanceMethod y).before args s = true) : (Cond.selects C y y).before args s = true := by
  obtain ⟨mk, methM, hnamed, hmethM, -, -⟩ := Cond.instanceMethod_spec hinst
  have hfound : s.methodFound? y.cls y.name y.desc = some mk := State.methodFound?_of_named hnamed hy
  simp only [Cond.before, Cond.holds, Cond.value] at h1
  cases hc : s.vm.findClass C with
  | none => simp [hc] at h1
  | some cc0 =>
    cases hf : s.methodFound? x.cls x.name x.desc with
    | none => simp [hc, hf] at h1
    | some r =>
      cases hm : s.methodNamed? x with
      | none => simp [hc, hf, hm] at h1
      | some mx =>
        have hcl : mk.cls = mx.cls := Option.some.inj ((findClass_of_methodNamed hnamed).symm.trans ((congrArg s.vm.findClass hxy).trans (findClass_of_methodNamed hm)))
        have hsel : selectMethod {} s.vm cc0 mk = .method mk := selectMethod_private hmethM (Cond.privateMethod_at hpriv mk methM hnamed hmethM)
        simp only [hc, hf, hm] at h1
        simp only [Cond.before, Cond.holds, Cond.value, hc, hfound, hnamed, hsel, hcl]
        revert h1
        cases selectMethod {} s.vm cc0 r <;> simp
theorem run_U (C0 : gC p s m meth c cc nL ret0 y0 args A D tys) (hP : va_P D cls wc H) (hD : va_D A wc) (hS : va_S A s.heap H locs) (hF : ∀ q, va_A wc H.size q → A q) {ci : Nat} {fs : List Value} {q : vw_C} (hc : cls[ci]? = some q) (he : wc[0]? = some (b, .inr (ci, fs)))
    (hM : Met l y (wM y bytes maxL ret) rm (va_Pc (.ref b :: As) (gPre D tys wc H.size)) Qc mc ms (va_A wc H.size)) (h1 : Cond.methodLink y0.cls idx y ∈ TG) (h2 : Cond.sameMethod y.cls y.cls y.name y.desc ∈ TG) (h3 : (Cond.selects q.1 y y).before args s = true) (h4 : Cond.instanceMethod y ∈ TG) (h5 : Cond.initialized y.cls ∈ TG) (h6 : Cond.code y bytes maxL ret ∈ TG) (hd : y.cls ≠ "java/lang/invoke/MethodHandle" ∧ y.cls ≠ "java/lang/invoke/VarHandle" ∧ (parseMethodDescriptor y.desc).map (fun d => d.parameters.length) = some As.length) (hrc : rm.cells = mc) (hrs : rm.slots = ms) (hR : rm.frames + 1 ≤ R.frames ∧ 8 + (maxL + 11) + rm.locals ≤ R.locals)
    (hsize : ls.size = nL) (hst : st0 = As.reverse ++ .ref b :: rest) (hroom : (rest.map fun v => v.category).sum ≤ 8) (hdg : decode cc pc = .ok (.invokevirtual idx, 3)) (hf : cells + mc ≤ R.cells ∧ slots + ms ≤ R.slots) :
    va_Run p l e R s m args below meth c H locs cells slots mc ms (F0 m pc ls st0) rest (Qc (Value.ref b :: As).toArray) (va_A wc H.size) := by
  obtain ⟨hx, hb, hr, hml, hown, hts, hlocks, hN, hA, hK⟩ := C0
  refine va_runU (As := As) (rest := rest) (owner := y.cls) (x := y) ⟨hx, hb, hml, hown, hts⟩ hM ⟨⟨hrc, hrs, hR.1, hR.2, pay_in hts (g_I h6), List.mem_cons_self⟩, hts _ h6, hts _ h5, ⟨hd.1, hd.2.1⟩, fun sig h => ?_, hts _ h1, hts _ h2, va_Decl.of (hts _ h4) (hts _ h6), h3, hts _ h4⟩ ⟨gPre.blind, va_recv hK hP hc he, fun U hU hW => ⟨rfl, by rw [hU], hN.call hS hF hU hW, by rw [hU]; exact hP, va_K.moved hW.alike hK, hD.weaken (fun _ _ _ _ => trivial)⟩⟩ rfl rfl hsize hst (lv_room hroom) hdg hf
  have h2 := hd.2.2
  rw [h] at h2
  exact (Option.some.inj h2).symm
theorem run_SU (C0 : gC p s m meth c cc nL ret0 y0 args A D tys) (hP : va_P D cls wc H) (hD : va_D A wc) (hS : va_S A s.heap H locs) (hF : ∀ q, va_A wc H.size q → A q) {ci : Nat} {fs : List Value} {q : vw_C} (hc : cls[ci]? = some q) (he : wc[0]? = some (b, .inr (ci, fs)))
    (hM : Met l y (wM y bytes maxL ret) rm (va_Pc (.ref b :: As) (gPre D tys wc H.size)) Qc mc ms (va_A wc H.size)) (h1 : Cond.methodLink y0.cls idx y ∈ TG) (h2 : Cond.sameMethod y.cls y.cls y.name y.desc ∈ TG) (h3 : Cond.superclass y0.cls y.cls ∈ TG) (h4 : Cond.instanceMethod y ∈ TG) (h5 : Cond.initialized y.cls ∈ TG) (h6 : Cond.code y bytes maxL ret ∈ TG) (hno : y.name ≠ "<init>") (hd : y.cls ≠ "java/lang/invoke/MethodHandle" ∧ y.cls ≠ "java/lang/invoke/VarHandle" ∧ (parseMethodDescriptor y.desc).map (fun d => d.parameters.length) = some As.length) (hrc : rm.cells = mc) (hrs : rm.slots = ms) (hR : rm.frames + 1 ≤ R.frames ∧ 8 + (maxL + 11) + rm.locals ≤ R.locals)
    (hsize : ls.size = nL) (hst : st0 = As.reverse ++ .ref b :: rest) (hroom : (rest.map fun v => v.category).sum ≤ 8) (hdg : decode cc pc = .ok (.invokespecial idx, 3)) (hf : cells + mc ≤ R.cells ∧ slots + ms ≤ R.slots) :
    va_Run p l e R s m args below meth c H locs cells slots mc ms (F0 m pc ls st0) rest (Qc (Value.ref b :: As).toArray) (va_A wc H.size) := by
  obtain ⟨hx, hb, hr, hml, hown, hts, hlocks, hN, hA, hK⟩ := C0
  refine va_runSU (C := q.1) (As := As) (rest := rest) (hK.1 ci q hc).2 ⟨hx, hb, hml, hown, hts⟩ hM ⟨⟨hrc, hrs, hR.1, hR.2, pay_in hts (g_I h6), List.mem_cons_self⟩, hts _ h1, hts _ h2, hts _ h3, hts _ h4, hts _ h5, hts _ h6, hno, fun sig h => ?_⟩ ⟨gPre.blind, va_recv hK hP hc he, fun U hU hW => ⟨rfl, by rw [hU], hN.call hS hF hU hW, by rw [hU]; exact hP, va_K.moved hW.alike hK, hD.weaken (fun _ _ _ _ => trivial)⟩⟩ rfl rfl hsize hst (lv_room hroom) hdg hf
  have h2 := hd.2.2
  rw [h] at h2
  exact (Option.some.inj h2).symm
theorem g_newa (C0 : gC p s m meth c cc nL ret0 y0 args A D tys) (hP : va_P D cls ws H) (hD : va_D A ws) (hS : va_S A s.heap H locs) {atype : ArrayType} (hw : Cond.arrayClass (newarray.typeOf atype) ∈ TG) (t0 : Nat) {cA : ClassId} (ht : tys[t0]? = some (cA, newarray.typeOf atype)) {k : Int32} {N : Nat} (hz : ∀ cA : ClassId, vp_cell cA (N, .inl (fun _ => 0)) = arrV cA N (fun _ => defaultValue (newarray.typeOf atype))) (hn : ¬ k < 0) (hN : k.toNatClampNeg = N) (hbytes : N * componentBytes (newarray.typeOf atype) ≤ 536870912) (hcells : cells + 1 ≤ R.cells) (hslots : slots + N ≤ R.slots) (hdg : decode cc pc = .ok (.newarray atype, 2))
    (kk : ∀ (q : Nat) (H1 : Heap), va_P D cls (ws ++ [(q, .inl (cA, N, .inl (fun _ => 0)))]) H1 → va_D A (ws ++ [(q, .inl (cA, N, .inl (fun _ => 0)))]) → va_S A s.heap H1 locs → W p l e R s m args below meth c H1 locs (cells + 1) (slots + N) Qw (F0 m (pc + 2) ls (.ref q :: rest))) : W p l e R s m args below meth c H locs cells slots Qw (F0 m pc ls (.int k :: rest)) := by
  obtain ⟨hx, hb, hr, hml, hown, hts, hlocks, hNN, hA, hK⟩ := C0
  refine va_newa hx hb (hts _ hw) rfl hK hP hD hS hA hz hn hN hbytes hcells hslots hdg (fun q cA' H1 hK1 hP1 hD1 hS1 => ?_)
  have h1 := (hK1.2 tys.length (cA', newarray.typeOf atype) (by simp)).2
  have h2 := (hK.2 t0 _ ht).2
  have e : cA' = cA := by
    revert h1 h2
    cases atype <;> exact fun h1 h2 => Option.some.inj (Eq.trans (Eq.symm (show s.vm.findClass _ = some cA' from h1)) (show s.vm.findClass _ = some cA from h2))
  subst e
  exact kk q H1 hP1 hD1 hS1
/-- behind a call: what came back stands beside the rest; 'back' puts the cells in the order that is wanted -/
theorem kon_i {V B : Type} {Q : Int32 → V → Prop} {w1 : V → B → va_W} {wr : va_W} {av : Array Value} (wn : V → B → va_W) (isC isR isN : List Nat) (hP : va_P D cls ws H) (hD : va_D A ws) (hS : va_S A s.heap H locs) (hF : ∀ q, va_A wc H.size q → A q) (hC : isC.map (fun i => ws[i]?) = wc.map some) (hR : isR.map (fun i => ws[i]?) = wr.map some) (hn : va_nd isR = true) (hdis : ∀ i ∈ isR, i ∉ isC) (hnN : va_nd isN = true) (hN : ∀ v b, isN.map (fun i => (wr ++ w1 v b)[i]?) = (wn v b).map some)
    (hr : va_Run p l e R s m args below meth c H locs cells slots mc ms (F0 m pc ls st0) rest (va_Qi (fun r (u : V × B) => Q r u.1) (fun u t => gB D tys (va_A wc H.size) (w1 u.1 u.2) t) (va_A wc H.size) av) (va_A wc H.size))
    (kk : ∀ (r : Int32) (v : V) (b : B) (H1 : Heap) (locs1 : List Loc), Q r v → va_P D cls (wn v b) H1 → va_D A (wn v b) → va_S A s.heap H1 locs1 → W p l e R s m args below meth c H1 locs1 (cells + mc) (slots + ms) Qw (F0 m (pc + 3) ls (.int r :: rest))) : W p l e R s m args below meth c H locs cells slots Qw (F0 m pc ls st0) := by
  refine va_calli hr hS (fun q _ h => hF q h) hF (fun r u t H1 locs1 ht hvm hw hB hz1 hk1 hS1 => ?_)
  obtain ⟨hP1, hK1, hD1⟩ := hB
  rw [ht] at hP1
  obtain ⟨hP2, hD2⟩ := va_join (wr := wr) hP hD isC isR hC hR hn hdis hk1 hF hP1 hD1
  have hs : isN.filterMap (fun i => (wr ++ w1 u.1 u.2)[i]?) = wn u.1 u.2 := kon_fm (hN u.1 u.2)
  exact kk r u.1 u.2 H1 locs1 hw (hP2.sub isN hs) (hD2.sub isN hnN (hN u.1 u.2)) hS1
theorem kon_v {V B : Type} {Q : V → Prop} {w1 : V → B → va_W} {wr : va_W} {av : Array Value} (wn : V → B → va_W) (isC isR isN : List Nat) (hP : va_P D cls ws H) (hD : va_D A ws) (hS : va_S A s.heap H locs) (hF : ∀ q, va_A wc H.size q → A q) (hC : isC.map (fun i => ws[i]?) = wc.map some) (hR : isR.map (fun i => ws[i]?) = wr.map some) (hn : va_nd isR = true) (hdis : ∀ i ∈ isR, i ∉ isC) (hnN : va_nd isN = true) (hN : ∀ v b, isN.map (fun i => (wr ++ w1 v b)[i]?) = (wn v b).map some)
    (hr : va_Run p l e R s m args below meth c H locs cells slots mc ms (F0 m pc ls st0) rest (va_Qv (fun (u : V × B) => Q u.1) (fun u t => gB D tys (va_A wc H.size) (w1 u.1 u.2) t) (va_A wc H.size) av) (va_A wc H.size))
    (kk : ∀ (v : V) (b : B) (H1 : Heap) (locs1 : List Loc), Q v → va_P D cls (wn v b) H1 → va_D A (wn v b) → va_S A s.heap H1 locs1 → W p l e R s m args below meth c H1 locs1 (cells + mc) (slots + ms) Qw (F0 m (pc + 3) ls rest)) : W p l e R s m args below meth c H locs cells slots Qw (F0 m pc ls st0) := by
  refine va_callv hr hS (fun q _ h => hF q h) hF (fun u t H1 locs1 ht hvm hw hB hz1 hk1 hS1 => ?_)
  obtain ⟨hP1, hK1, hD1⟩ := hB
  rw [ht] at hP1
  obtain ⟨hP2, hD2⟩ := va_join (wr := wr) hP hD isC isR hC hR hn hdis hk1 hF hP1 hD1
  have hs : isN.filterMap (fun i => (wr ++ w1 u.1 u.2)[i]?) = wn u.1 u.2 := kon_fm (hN u.1 u.2)
  exact kk u.1 u.2 H1 locs1 hw (hP2.sub isN hs) (hD2.sub isN hnN (hN u.1 u.2)) hS1
theorem kon_r {V B : Type} {Q : V → Prop} {w1 : V → B → va_W} {ra : V → B → Nat} {wr : va_W} {av : Array Value} (wn : V → B → va_W) (isC isR isN : List Nat) (hP : va_P D cls ws H) (hD : va_D A ws) (hS : va_S A s.heap H locs) (hF : ∀ q, va_A wc H.size q → A q) (hC : isC.map (fun i => ws[i]?) = wc.map some) (hR : isR.map (fun i => ws[i]?) = wr.map some) (hn : va_nd isR = true) (hdis : ∀ i ∈ isR, i ∉ isC) (hnN : va_nd isN = true) (hN : ∀ v b, isN.map (fun i => (wr ++ w1 v b)[i]?) = (wn v b).map some)
    (hr : va_Run p l e R s m args below meth c H locs cells slots mc ms (F0 m pc ls st0) rest (va_Qr (fun (u : V × B) => Q u.1) (fun u a t => a = ra u.1 u.2 ∧ gB D tys (va_A wc H.size) (w1 u.1 u.2) t) (va_A wc H.size) av) (va_A wc H.size))
    (kk : ∀ (v : V) (b : B) (H1 : Heap) (locs1 : List Loc), Q v → va_P D cls (wn v b) H1 → va_D A (wn v b) → va_S A s.heap H1 locs1 → W p l e R s m args below meth c H1 locs1 (cells + mc) (slots + ms) Qw (F0 m (pc + 3) ls (.ref (ra v b) :: rest))) : W p l e R s m args below meth c H locs cells slots Qw (F0 m pc ls st0) := by
  refine va_callr hr hS (fun q _ h => hF q h) hF (fun u a t H1 locs1 ht hvm hw hB hz1 hk1 hS1 => ?_)
  obtain ⟨rfl, hP1, hK1, hD1⟩ := hB
  rw [ht] at hP1
  obtain ⟨hP2, hD2⟩ := va_join (wr := wr) hP hD isC isR hC hR hn hdis hk1 hF hP1 hD1
  have hs : isN.filterMap (fun i => (wr ++ w1 u.1 u.2)[i]?) = wn u.1 u.2 := kon_fm (hN u.1 u.2)
  exact kk u.1 u.2 H1 locs1 hw (hP2.sub isN hs) (hD2.sub isN hnN (hN u.1 u.2)) hS1
end BCL
abbrev tysL (cI cC cB : ClassId) : List (ClassId × FieldType) := [(cI, .int), (cC, .char), (cB, .byte)]
theorem CTi.std {V B : Type} {l : Launch} {y : MethodName} {rm : Room} {mc ms : Nat} {D : va_G} {tys : List (ClassId × FieldType)} {av : List Value} {wc : va_W} {sz : Nat} {cc : ByteArray} {maxL : Nat} {Q : Int32 → V → Prop} {w1 : V → B → va_W} {ty : FieldType}
    (hy : plainName y.cls = true) (hlen : (lg_sl av).length ≤ maxL)
    (body : ∀ (p : Program) (e : Env) (s : State) (m : MethodId) (args : Array Value) (below : List Frame) (meth : Method) (c : Code) (A : Nat → Prop) (ls : Array Slot) (QF : State → Prop), gC p s m meth c cc maxL (some ty) y args A D tys → va_P D cls wc s.heap → va_D A wc → lv_has ls maxL (lv_args 0 av) → va_S A s.heap s.heap [] → s.heap.size = sz → meth.name = y.name →
      (∀ (v : V) (b : B) (x : Int32) (H : Heap) (locs : List Loc) (pc : Nat) (ls : Array Slot), narrow ty (.int x) = .int x → Q x v → va_P D cls (w1 v b) H → va_D A (w1 v b) → va_S A s.heap H locs → decode cc pc = .ok (.ireturn, 1) → W p l e rm s m args below meth c H locs mc ms QF (F0 m pc ls [.int x])) →
      W p l e rm s m args below meth c s.heap [] 0 0 QF (F0 m 0 ls [])) : CTi l y (wM y cc maxL (some ty)) rm mc ms D tys av wc sz Q w1 :=
  Met.std (Qf := fun A => va_Qi (fun r (u : V × B) => Q r u.1) (fun u t => gB D tys A (w1 u.1 u.2) t) A) hy hlen (fun p e s m below meth c A ls C0 hP hD hl hS hsz hnm => body p e s m _ below meth c A ls _ C0 hP hD hl hS hsz hnm (fun v b x H locs pc ls hn hQ hP hD hS hdg => ret_i C0 v b hn hQ hP hD hS hdg))
theorem CTv.std {V B : Type} {l : Launch} {y : MethodName} {rm : Room} {mc ms : Nat} {D : va_G} {tys : List (ClassId × FieldType)} {av : List Value} {wc : va_W} {sz : Nat} {cc : ByteArray} {maxL : Nat} {Q : V → Prop} {w1 : V → B → va_W}
    (hy : plainName y.cls = true) (hlen : (lg_sl av).length ≤ maxL)
    (body : ∀ (p : Program) (e : Env) (s : State) (m : MethodId) (args : Array Value) (below : List Frame) (meth : Method) (c : Code) (A : Nat → Prop) (ls : Array Slot) (QF : State → Prop), gC p s m meth c cc maxL none y args A D tys → va_P D cls wc s.heap → va_D A wc → lv_has ls maxL (lv_args 0 av) → va_S A s.heap s.heap [] → s.heap.size = sz → meth.name = y.name →
      (∀ (v : V) (b : B) (H : Heap) (locs : List Loc) (pc : Nat) (ls : Array Slot), Q v → va_P D cls (w1 v b) H → va_D A (w1 v b) → va_S A s.heap H locs → decode cc pc = .ok (.return_, 1) → W p l e rm s m args below meth c H locs mc ms QF (F0 m pc ls [])) →
      W p l e rm s m args below meth c s.heap [] 0 0 QF (F0 m 0 ls [])) : CTv l y (wM y cc maxL none) rm mc ms D tys av wc sz Q w1 :=
  Met.std (Qf := fun A => va_Qv (fun (u : V × B) => Q u.1) (fun u t => gB D tys A (w1 u.1 u.2) t) A) hy hlen (fun p e s m below meth c A ls C0 hP hD hl hS hsz hnm => body p e s m _ below meth c A ls _ C0 hP hD hl hS hsz hnm (fun v b H locs pc ls hQ hP hD hS hdg => ret_v C0 v b hQ hP hD hS hdg))
theorem CTr.std {V B : Type} {l : Launch} {y : MethodName} {rm : Room} {mc ms : Nat} {D : va_G} {tys : List (ClassId × FieldType)} {av : List Value} {wc : va_W} {sz : Nat} {cc : ByteArray} {maxL : Nat} {Q : V → Prop} {w1 : V → B → va_W} {ty : FieldType} {ra : V → B → Nat} (hty : (∃ n, ty = .object n) ∨ ∃ t, ty = .array t)
    (hy : plainName y.cls = true) (hlen : (lg_sl av).length ≤ maxL)
    (body : ∀ (p : Program) (e : Env) (s : State) (m : MethodId) (args : Array Value) (below : List Frame) (meth : Method) (c : Code) (A : Nat → Prop) (ls : Array Slot) (QF : State → Prop), gC p s m meth c cc maxL (some ty) y args A D tys → va_P D cls wc s.heap → va_D A wc → lv_has ls maxL (lv_args 0 av) → va_S A s.heap s.heap [] → s.heap.size = sz → meth.name = y.name →
      (∀ (v : V) (b : B) (H : Heap) (locs : List Loc) (pc : Nat) (ls : Array Slot), Q v → va_P D cls (w1 v b) H → va_D A (w1 v b) → va_S A s.heap H locs → decode cc pc = .ok (.areturn, 1) → W p l e rm s m args below meth c H locs mc ms QF (F0 m pc ls [.ref (ra v b)])) →
      W p l e rm s m args below meth c s.heap [] 0 0 QF (F0 m 0 ls [])) : CTr l y (wM y cc maxL (some ty)) rm mc ms D tys av wc sz Q w1 ra :=
  Met.std (Qf := fun A => va_Qr (fun (u : V × B) => Q u.1) (fun u a t => a = ra u.1 u.2 ∧ gB D tys A (w1 u.1 u.2) t) A) hy hlen (fun p e s m below meth c A ls C0 hP hD hl hS hsz hnm => body p e s m _ below meth c A ls _ C0 hP hD hl hS hsz hnm (fun v b H locs pc ls hQ hP hD hS hdg => ret_r hty C0 v b hQ hP hD hS hdg))
