section BCM
variable {p : Program} {l : Launch} {e : Env} {R : Room} {s : State} {m : MethodId} {args : Array Value} {below : List Frame} {meth : Method} {c : Code} {H : Heap} {locs : List Loc} {cells slots : Nat} {A : Nat → Prop} {D : va_G} {tys : List (ClassId × FieldType)} {cc : ByteArray} {nL : Nat} {ret0 : Option FieldType} {y0 : MethodName} {pc : Nat} {ls : Array Slot} {Qw : State → Prop}
variable {y : MethodName} {bytes : ByteArray} {maxL mc ms idx : Nat} {ret : Option FieldType} {rm : Room} {b : Nat} {As rest st0 : List Value} {ws wc : va_W}
theorem call_V_i {V B : Type} {Q : Int32 → V → Prop} {w1 : V → B → va_W} (C0 : gC p s m meth c cc nL ret0 y0 args A D tys) (hP : va_P D cls ws H) (hD : va_D A ws) (hS : va_S A s.heap H locs) (isC isR isN : List Nat) (wr : va_W) (wn : V → B → va_W) {ci : Nat} {fs : List Value} {q : vw_C} (hc : cls[ci]? = some q) (he : wc[0]? = some (b, .inr (ci, fs)))
    (hM : CTi l y (wM y bytes maxL ret) rm mc ms D tys (.ref b :: As) wc H.size Q w1) (hg : GoodIn TG (wsV y0.cls idx q.1 y (wM y bytes maxL ret))) (nA : Nat) (hnA : As.length = nA) (hd : y.cls = q.1 ∧ y.cls ≠ "java/lang/invoke/MethodHandle" ∧ y.cls ≠ "java/lang/invoke/VarHandle" ∧ (parseMethodDescriptor y.desc).map (fun d => d.parameters.length) = some nA) (hrc : rm.cells = mc) (hrs : rm.slots = ms) (hRm : rm.frames + 1 ≤ R.frames ∧ 8 + (maxL + 11) + rm.locals ≤ R.locals)
    (hC : isC.map (fun i => ws[i]?) = wc.map some) (hR : isR.map (fun i => ws[i]?) = wr.map some) (hnC : va_nd isC = true) (hn : va_nd isR = true) (hdis : ∀ i ∈ isR, i ∉ isC) (hnN : va_nd isN = true) (hN : ∀ v b, isN.map (fun i => (wr ++ w1 v b)[i]?) = (wn v b).map some)
    (hsize : ls.size = nL) (hst : st0 = As.reverse ++ .ref b :: rest) (hroom : (rest.map fun v => v.category).sum ≤ 8) (hdg : decode cc pc = .ok (.invokevirtual idx, 3)) (hf : cells + mc ≤ R.cells ∧ slots + ms ≤ R.slots)
    (kk : ∀ (r : Int32) (v : V) (b : B) (H1 : Heap) (locs1 : List Loc), Q r v → va_P D cls (wn v b) H1 → va_D A (wn v b) → va_S A s.heap H1 locs1 → W p l e R s m args below meth c H1 locs1 (cells + mc) (slots + ms) Qw (F0 m (pc + 3) ls (.int r :: rest))) : W p l e R s m args below meth c H locs cells slots Qw (F0 m pc ls st0) := by
  subst hnA
  have hA : ∀ q : Nat, s.heap.size ≤ q → A q := C0.2.2.2.2.2.2.2.2.1
  have hF := va_free (wc := wc) hD hS hA isC hC
  have hPc := hP.sub isC (kon_fm hC)
  have hDc := hD.sub isC hnC hC
  exact kon_i (Q := Q) (w1 := w1) (wc := wc) (wr := wr) wn isC isR isN hP hD hS hF hC hR hn hdis hnN hN (run_V C0 hPc hDc hS hF hc he hM hg hd hrc hrs hRm hsize hst hroom hdg hf) kk
theorem call_V_v {V B : Type} {Q : V → Prop} {w1 : V → B → va_W} (C0 : gC p s m meth c cc nL ret0 y0 args A D tys) (hP : va_P D cls ws H) (hD : va_D A ws) (hS : va_S A s.heap H locs) (isC isR isN : List Nat) (wr : va_W) (wn : V → B → va_W) {ci : Nat} {fs : List Value} {q : vw_C} (hc : cls[ci]? = some q) (he : wc[0]? = some (b, .inr (ci, fs)))
    (hM : CTv l y (wM y bytes maxL ret) rm mc ms D tys (.ref b :: As) wc H.size Q w1) (hg : GoodIn TG (wsV y0.cls idx q.1 y (wM y bytes maxL ret))) (nA : Nat) (hnA : As.length = nA) (hd : y.cls = q.1 ∧ y.cls ≠ "java/lang/invoke/MethodHandle" ∧ y.cls ≠ "java/lang/invoke/VarHandle" ∧ (parseMethodDescriptor y.desc).map (fun d => d.parameters.length) = some nA) (hrc : rm.cells = mc) (hrs : rm.slots = ms) (hRm : rm.frames + 1 ≤ R.frames ∧ 8 + (maxL + 11) + rm.locals ≤ R.locals)
    (hC : isC.map (fun i => ws[i]?) = wc.map some) (hR : isR.map (fun i => ws[i]?) = wr.map some) (hnC : va_nd isC = true) (hn : va_nd isR = true) (hdis : ∀ i ∈ isR, i ∉ isC) (hnN : va_nd isN = true) (hN : ∀ v b, isN.map (fun i => (wr ++ w1 v b)[i]?) = (wn v b).map some)
    (hsize : ls.size = nL) (hst : st0 = As.reverse ++ .ref b :: rest) (hroom : (rest.map fun v => v.category).sum ≤ 8) (hdg : decode cc pc = .ok (.invokevirtual idx, 3)) (hf : cells + mc ≤ R.cells ∧ slots + ms ≤ R.slots)
    (kk : ∀ (v : V) (b : B) (H1 : Heap) (locs1 : List Loc), Q v → va_P D cls (wn v b) H1 → va_D A (wn v b) → va_S A s.heap H1 locs1 → W p l e R s m args below meth c H1 locs1 (cells + mc) (slots + ms) Qw (F0 m (pc + 3) ls rest)) : W p l e R s m args below meth c H locs cells slots Qw (F0 m pc ls st0) := by
  subst hnA
  have hA : ∀ q : Nat, s.heap.size ≤ q → A q := C0.2.2.2.2.2.2.2.2.1
  have hF := va_free (wc := wc) hD hS hA isC hC
  have hPc := hP.sub isC (kon_fm hC)
  have hDc := hD.sub isC hnC hC
  exact kon_v (Q := Q) (w1 := w1) (wc := wc) (wr := wr) wn isC isR isN hP hD hS hF hC hR hn hdis hnN hN (run_V C0 hPc hDc hS hF hc he hM hg hd hrc hrs hRm hsize hst hroom hdg hf) kk
theorem call_V_r {V B : Type} {Q : V → Prop} {w1 : V → B → va_W} {ra : V → B → Nat} (C0 : gC p s m meth c cc nL ret0 y0 args A D tys) (hP : va_P D cls ws H) (hD : va_D A ws) (hS : va_S A s.heap H locs) (isC isR isN : List Nat) (wr : va_W) (wn : V → B → va_W) {ci : Nat} {fs : List Value} {q : vw_C} (hc : cls[ci]? = some q) (he : wc[0]? = some (b, .inr (ci, fs)))
    (hM : CTr l y (wM y bytes maxL ret) rm mc ms D tys (.ref b :: As) wc H.size Q w1 ra) (hg : GoodIn TG (wsV y0.cls idx q.1 y (wM y bytes maxL ret))) (nA : Nat) (hnA : As.length = nA) (hd : y.cls = q.1 ∧ y.cls ≠ "java/lang/invoke/MethodHandle" ∧ y.cls ≠ "java/lang/invoke/VarHandle" ∧ (parseMethodDescriptor y.desc).map (fun d => d.parameters.length) = some nA) (hrc : rm.cells = mc) (hrs : rm.slots = ms) (hRm : rm.frames + 1 ≤ R.frames ∧ 8 + (maxL + 11) + rm.locals ≤ R.locals)
    (hC : isC.map (fun i => ws[i]?) = wc.map some) (hR : isR.map (fun i => ws[i]?) = wr.map some) (hnC : va_nd isC = true) (hn : va_nd isR = true) (hdis : ∀ i ∈ isR, i ∉ isC) (hnN : va_nd isN = true) (hN : ∀ v b, isN.map (fun i => (wr ++ w1 v b)[i]?) = (wn v b).map some)
    (hsize : ls.size = nL) (hst : st0 = As.reverse ++ .ref b :: rest) (hroom : (rest.map fun v => v.category).sum ≤ 8) (hdg : decode cc pc = .ok (.invokevirtual idx, 3)) (hf : cells + mc ≤ R.cells ∧ slots + ms ≤ R.slots)
    (kk : ∀ (v : V) (b : B) (H1 : Heap) (locs1 : List Loc), Q v → va_P D cls (wn v b) H1 → va_D A (wn v b) → va_S A s.heap H1 locs1 → W p l e R s m args below meth c H1 locs1 (cells + mc) (slots + ms) Qw (F0 m (pc + 3) ls (.ref (ra v b) :: rest))) : W p l e R s m args below meth c H locs cells slots Qw (F0 m pc ls st0) := by
  subst hnA
  have hA : ∀ q : Nat, s.heap.size ≤ q → A q := C0.2.2.2.2.2.2.2.2.1
  have hF := va_free (wc := wc) hD hS hA isC hC
  have hPc := hP.sub isC (kon_fm hC)
  have hDc := hD.sub isC hnC hC
  exact kon_r (Q := Q) (w1 := w1) (wc := wc) (wr := wr) (ra := ra) wn isC isR isN hP hD hS hF hC hR hn hdis hnN hN (run_V C0 hPc hDc hS hF hc he hM hg hd hrc hrs hRm hsize hst hroom hdg hf) kk
theorem call_S_i {V B : Type} {Q : Int32 → V → Prop} {w1 : V → B → va_W} (C0 : gC p s m meth c cc nL ret0 y0 args A D tys) (hP : va_P D cls ws H) (hD : va_D A ws) (hS : va_S A s.heap H locs) (isC isR isN : List Nat) (wr : va_W) (wn : V → B → va_W) 
    (hM : CTi l y (wM y bytes maxL ret) rm mc ms D tys As wc H.size Q w1) (hg : GoodIn TG (va_wsS y0.cls idx y (wM y bytes maxL ret))) (nA : Nat) (hnA : As.length = nA) (hd : y.cls ≠ "java/lang/invoke/MethodHandle" ∧ y.cls ≠ "java/lang/invoke/VarHandle" ∧ (parseMethodDescriptor y.desc).map (fun d => d.parameters.length) = some nA) (hrc : rm.cells = mc) (hrs : rm.slots = ms) (hRm : rm.frames + 1 ≤ R.frames ∧ 8 + (maxL + 11) + rm.locals ≤ R.locals)
    (hC : isC.map (fun i => ws[i]?) = wc.map some) (hR : isR.map (fun i => ws[i]?) = wr.map some) (hnC : va_nd isC = true) (hn : va_nd isR = true) (hdis : ∀ i ∈ isR, i ∉ isC) (hnN : va_nd isN = true) (hN : ∀ v b, isN.map (fun i => (wr ++ w1 v b)[i]?) = (wn v b).map some)
    (hsize : ls.size = nL) (hst : st0 = As.reverse ++ rest) (hroom : (rest.map fun v => v.category).sum ≤ 8) (hdg : decode cc pc = .ok (.invokestatic idx, 3)) (hf : cells + mc ≤ R.cells ∧ slots + ms ≤ R.slots)
    (kk : ∀ (r : Int32) (v : V) (b : B) (H1 : Heap) (locs1 : List Loc), Q r v → va_P D cls (wn v b) H1 → va_D A (wn v b) → va_S A s.heap H1 locs1 → W p l e R s m args below meth c H1 locs1 (cells + mc) (slots + ms) Qw (F0 m (pc + 3) ls (.int r :: rest))) : W p l e R s m args below meth c H locs cells slots Qw (F0 m pc ls st0) := by
  subst hnA
  have hA : ∀ q : Nat, s.heap.size ≤ q → A q := C0.2.2.2.2.2.2.2.2.1
  have hF := va_free (wc := wc) hD hS hA isC hC
  have hPc := hP.sub isC (kon_fm hC)
  have hDc := hD.sub isC hnC hC
  exact kon_i (Q := Q) (w1 := w1) (wc := wc) (wr := wr) wn isC isR isN hP hD hS hF hC hR hn hdis hnN hN (run_S C0 hPc hDc hS hF hM hg hd hrc hrs hRm hsize hst hroom hdg hf) kk
theorem call_S_v {V B : Type} {Q : V → Prop} {w1 : V → B → va_W} (C0 : gC p s m meth c cc nL ret0 y0 args A D tys) (hP : va_P D cls ws H) (hD : va_D A ws) (hS : va_S A s.heap H locs) (isC isR isN : List Nat) (wr : va_W) (wn : V → B → va_W) 
    (hM : CTv l y (wM y bytes maxL ret) rm mc ms D tys As wc H.size Q w1) (hg : GoodIn TG (va_wsS y0.cls idx y (wM y bytes maxL ret))) (nA : Nat) (hnA : As.length = nA) (hd : y.cls ≠ "java/lang/invoke/MethodHandle" ∧ y.cls ≠ "java/lang/invoke/VarHandle" ∧ (parseMethodDescriptor y.desc).map (fun d => d.parameters.length) = some nA) (hrc : rm.cells = mc) (hrs : rm.slots = ms) (hRm : rm.frames + 1 ≤ R.frames ∧ 8 + (maxL + 11) + rm.locals ≤ R.locals)
    (hC : isC.map (fun i => ws[i]?) = wc.map some) (hR : isR.map (fun i => ws[i]?) = wr.map some) (hnC : va_nd isC = true) (hn : va_nd isR = true) (hdis : ∀ i ∈ isR, i ∉ isC) (hnN : va_nd isN = true) (hN : ∀ v b, isN.map (fun i => (wr ++ w1 v b)[i]?) = (wn v b).map some)
    (hsize : ls.size = nL) (hst : st0 = As.reverse ++ rest) (hroom : (rest.map fun v => v.category).sum ≤ 8) (hdg : decode cc pc = .ok (.invokestatic idx, 3)) (hf : cells + mc ≤ R.cells ∧ slots + ms ≤ R.slots)
    (kk : ∀ (v : V) (b : B) (H1 : Heap) (locs1 : List Loc), Q v → va_P D cls (wn v b) H1 → va_D A (wn v b) → va_S A s.heap H1 locs1 → W p l e R s m args below meth c H1 locs1 (cells + mc) (slots + ms) Qw (F0 m (pc + 3) ls rest)) : W p l e R s m args below meth c H locs cells slots Qw (F0 m pc ls st0) := by
  subst hnA
  have hA : ∀ q : Nat, s.heap.size ≤ q → A q := C0.2.2.2.2.2.2.2.2.1
  have hF := va_free (wc := wc) hD hS hA isC hC
  have hPc := hP.sub isC (kon_fm hC)
  have hDc := hD.sub isC hnC hC
  exact kon_v (Q := Q) (w1 := w1) (wc := wc) (wr := wr) wn isC isR isN hP hD hS hF hC hR hn hdis hnN hN (run_S C0 hPc hDc hS hF hM hg hd hrc hrs hRm hsize hst hroom hdg hf) kk
theorem call_S_r {V B : Type} {Q : V → Prop} {w1 : V → B → va_W} {ra : V → B → Nat} (C0 : gC p s m meth c cc nL ret0 y0 args A D tys) (hP : va_P D cls ws H) (hD : va_D A ws) (hS : va_S A s.heap H locs) (isC isR isN : List Nat) (wr : va_W) (wn : V → B → va_W) 
    (hM : CTr l y (wM y bytes maxL ret) rm mc ms D tys As wc H.size Q w1 ra) (hg : GoodIn TG (va_wsS y0.cls idx y (wM y bytes maxL ret))) (nA : Nat) (hnA : As.length = nA) (hd : y.cls ≠ "java/lang/invoke/MethodHandle" ∧ y.cls ≠ "java/lang/invoke/VarHandle" ∧ (parseMethodDescriptor y.desc).map (fun d => d.parameters.length) = some nA) (hrc : rm.cells = mc) (hrs : rm.slots = ms) (hRm : rm.frames + 1 ≤ R.frames ∧ 8 + (maxL + 11) + rm.locals ≤ R.locals)
    (hC : isC.map (fun i => ws[i]?) = wc.map some) (hR : isR.map (fun i => ws[i]?) = wr.map some) (hnC : va_nd isC = true) (hn : va_nd isR = true) (hdis : ∀ i ∈ isR, i ∉ isC) (hnN : va_nd isN = true) (hN : ∀ v b, isN.map (fun i => (wr ++ w1 v b)[i]?) = (wn v b).map some)
    (hsize : ls.size = nL) (hst : st0 = As.reverse ++ rest) (hroom : (rest.map fun v => v.category).sum ≤ 8) (hdg : decode cc pc = .ok (.invokestatic idx, 3)) (hf : cells + mc ≤ R.cells ∧ slots + ms ≤ R.slots)
    (kk : ∀ (v : V) (b : B) (H1 : Heap) (locs1 : List Loc), Q v → va_P D cls (wn v b) H1 → va_D A (wn v b) → va_S A s.heap H1 locs1 → W p l e R s m args below meth c H1 locs1 (cells + mc) (slots + ms) Qw (F0 m (pc + 3) ls (.ref (ra v b) :: rest))) : W p l e R s m args below meth c H locs cells slots Qw (F0 m pc ls st0) := by
  subst hnA
  have hA : ∀ q : Nat, s.heap.size ≤ q → A q := C0.2.2.2.2.2.2.2.2.1
  have hF := va_free (wc := wc) hD hS hA isC hC
  have hPc := hP.sub isC (kon_fm hC)
  have hDc := hD.sub isC hnC hC
  exact kon_r (Q := Q) (w1 := w1) (wc := wc) (wr := wr) (ra := ra) wn isC isR isN hP hD hS hF hC hR hn hdis hnN hN (run_S C0 hPc hDc hS hF hM hg hd hrc hrs hRm hsize hst hroom hdg hf) kk
theorem call_SN_i {V B : Type} {Q : Int32 → V → Prop} {w1 : V → B → va_W} (C0 : gC p s m meth c cc nL ret0 y0 args A D tys) (hP : va_P D cls ws H) (hD : va_D A ws) (hS : va_S A s.heap H locs) (isC isR isN : List Nat) (wr : va_W) (wn : V → B → va_W) 
    (hM : CTi l y (wM y bytes maxL ret) rm mc ms D tys As wc H.size Q w1) {host : String} (hnl : (y0.cls, idx, y, host) ∈ nestL) (h2 : Cond.static y ∈ TG) (h4 : Cond.initialized y.cls ∈ TG) (h5 : Cond.code y bytes maxL ret ∈ TG) (nA : Nat) (hnA : As.length = nA) (hd : y.cls ≠ "java/lang/invoke/MethodHandle" ∧ y.cls ≠ "java/lang/invoke/VarHandle" ∧ (parseMethodDescriptor y.desc).map (fun d => d.parameters.length) = some nA) (hrc : rm.cells = mc) (hrs : rm.slots = ms) (hRm : rm.frames + 1 ≤ R.frames ∧ 8 + (maxL + 11) + rm.locals ≤ R.locals)
    (hC : isC.map (fun i => ws[i]?) = wc.map some) (hR : isR.map (fun i => ws[i]?) = wr.map some) (hnC : va_nd isC = true) (hn : va_nd isR = true) (hdis : ∀ i ∈ isR, i ∉ isC) (hnN : va_nd isN = true) (hN : ∀ v b, isN.map (fun i => (wr ++ w1 v b)[i]?) = (wn v b).map some)
    (hsize : ls.size = nL) (hst : st0 = As.reverse ++ rest) (hroom : (rest.map fun v => v.category).sum ≤ 8) (hdg : decode cc pc = .ok (.invokestatic idx, 3)) (hf : cells + mc ≤ R.cells ∧ slots + ms ≤ R.slots)
    (kk : ∀ (r : Int32) (v : V) (b : B) (H1 : Heap) (locs1 : List Loc), Q r v → va_P D cls (wn v b) H1 → va_D A (wn v b) → va_S A s.heap H1 locs1 → W p l e R s m args below meth c H1 locs1 (cells + mc) (slots + ms) Qw (F0 m (pc + 3) ls (.int r :: rest))) : W p l e R s m args below meth c H locs cells slots Qw (F0 m pc ls st0) := by
  subst hnA
  have hA : ∀ q : Nat, s.heap.size ≤ q → A q := C0.2.2.2.2.2.2.2.2.1
  have hF := va_free (wc := wc) hD hS hA isC hC
  have hPc := hP.sub isC (kon_fm hC)
  have hDc := hD.sub isC hnC hC
  exact kon_i (Q := Q) (w1 := w1) (wc := wc) (wr := wr) wn isC isR isN hP hD hS hF hC hR hn hdis hnN hN (run_SN C0 hPc hDc hS hF hM hnl h2 h4 h5 hd hrc hrs hRm hsize hst hroom hdg hf) kk
theorem call_I_v {V B : Type} {Q : V → Prop} {w1 : V → B → va_W} (C0 : gC p s m meth c cc nL ret0 y0 args A D tys) (hP : va_P D cls ws H) (hD : va_D A ws) (hS : va_S A s.heap H locs) (isC isR isN : List Nat) (wr : va_W) (wn : V → B → va_W) 
    (hM : CTv l y (wM y bytes maxL none) rm mc ms D tys (.ref b :: As) wc H.size Q w1) (h1 : Cond.methodLink y0.cls idx y ∈ TG) (h2 : Cond.instanceMethod y ∈ TG) (h4 : Cond.initialized y.cls ∈ TG) (h5 : Cond.code y bytes maxL none ∈ TG) (hy : y.name = "<init>") (nA : Nat) (hnA : As.length = nA) (hd : y.cls ≠ "java/lang/invoke/MethodHandle" ∧ y.cls ≠ "java/lang/invoke/VarHandle" ∧ (parseMethodDescriptor y.desc).map (fun d => d.parameters.length) = some nA) (hrc : rm.cells = mc) (hrs : rm.slots = ms) (hRm : rm.frames + 1 ≤ R.frames ∧ 8 + (maxL + 11) + rm.locals ≤ R.locals)
    (hC : isC.map (fun i => ws[i]?) = wc.map some) (hR : isR.map (fun i => ws[i]?) = wr.map some) (hnC : va_nd isC = true) (hn : va_nd isR = true) (hdis : ∀ i ∈ isR, i ∉ isC) (hnN : va_nd isN = true) (hN : ∀ v b, isN.map (fun i => (wr ++ w1 v b)[i]?) = (wn v b).map some)
    (hsize : ls.size = nL) (hst : st0 = As.reverse ++ .ref b :: rest) (hroom : (rest.map fun v => v.category).sum ≤ 8) (hdg : decode cc pc = .ok (.invokespecial idx, 3)) (hf : cells + mc ≤ R.cells ∧ slots + ms ≤ R.slots)
    (kk : ∀ (v : V) (b : B) (H1 : Heap) (locs1 : List Loc), Q v → va_P D cls (wn v b) H1 → va_D A (wn v b) → va_S A s.heap H1 locs1 → W p l e R s m args below meth c H1 locs1 (cells + mc) (slots + ms) Qw (F0 m (pc + 3) ls rest)) : W p l e R s m args below meth c H locs cells slots Qw (F0 m pc ls st0) := by
  subst hnA
  have hA : ∀ q : Nat, s.heap.size ≤ q → A q := C0.2.2.2.2.2.2.2.2.1
  have hF := va_free (wc := wc) hD hS hA isC hC
  have hPc := hP.sub isC (kon_fm hC)
  have hDc := hD.sub isC hnC hC
  exact kon_v (Q := Q) (w1 := w1) (wc := wc) (wr := wr) wn isC isR isN hP hD hS hF hC hR hn hdis hnN hN (run_I C0 hPc hDc hS hF hM h1 h2 h4 h5 hy hd hrc hrs hRm hsize hst hroom hdg hf) kk
theorem call_IN_v {V B : Type} {Q : V → Prop} {w1 : V → B → va_W} (C0 : gC p s m meth c cc nL ret0 y0 args A D tys) (hP : va_P D cls ws H) (hD : va_D A ws) (hS : va_S A s.heap H locs) (isC isR isN : List Nat) (wr : va_W) (wn : V → B → va_W) 
    (hM : CTv l y (wM y bytes maxL none) rm mc ms D tys (.ref b :: As) wc H.size Q w1) {host : String} (hnl : (y0.cls, idx, y, host) ∈ nestL) (h2 : Cond.instanceMethod y ∈ TG) (h4 : Cond.initialized y.cls ∈ TG) (h5 : Cond.code y bytes maxL none ∈ TG) (hy : y.name = "<init>") (nA : Nat) (hnA : As.length = nA) (hd : y.cls ≠ "java/lang/invoke/MethodHandle" ∧ y.cls ≠ "java/lang/invoke/VarHandle" ∧ (parseMethodDescriptor y.desc).map (fun d => d.parameters.length) = some nA) (hrc : rm.cells = mc) (hrs : rm.slots = ms) (hRm : rm.frames + 1 ≤ R.frames ∧ 8 + (maxL + 11) + rm.locals ≤ R.locals)
    (hC : isC.map (fun i => ws[i]?) = wc.map some) (hR : isR.map (fun i => ws[i]?) = wr.map some) (hnC : va_nd isC = true) (hn : va_nd isR = true) (hdis : ∀ i ∈ isR, i ∉ isC) (hnN : va_nd isN = true) (hN : ∀ v b, isN.map (fun i => (wr ++ w1 v b)[i]?) = (wn v b).map some)
    (hsize : ls.size = nL) (hst : st0 = As.reverse ++ .ref b :: rest) (hroom : (rest.map fun v => v.category).sum ≤ 8) (hdg : decode cc pc = .ok (.invokespecial idx, 3)) (hf : cells + mc ≤ R.cells ∧ slots + ms ≤ R.slots)
    (kk : ∀ (v : V) (b : B) (H1 : Heap) (locs1 : List Loc), Q v → va_P D cls (wn v b) H1 → va_D A (wn v b) → va_S A s.heap H1 locs1 → W p l e R s m args below meth c H1 locs1 (cells + mc) (slots + ms) Qw (F0 m (pc + 3) ls rest)) : W p l e R s m args below meth c H locs cells slots Qw (F0 m pc ls st0) := by
  subst hnA
  have hA : ∀ q : Nat, s.heap.size ≤ q → A q := C0.2.2.2.2.2.2.2.2.1
  have hF := va_free (wc := wc) hD hS hA isC hC
  have hPc := hP.sub isC (kon_fm hC)
  have hDc := hD.sub isC hnC hC
  exact kon_v (Q := Q) (w1 := w1) (wc := wc) (wr := wr) wn isC isR isN hP hD hS hF hC hR hn hdis hnN hN (run_IN C0 hPc hDc hS hF hM hnl h2 h4 h5 hy hd hrc hrs hRm hsize hst hroom hdg hf) kk
theorem call_U_i {V B : Type} {Q : Int32 → V → Prop} {w1 : V → B → va_W} (C0 : gC p s m meth c cc nL ret0 y0 args A D tys) (hP : va_P D cls ws H) (hD : va_D A ws) (hS : va_S A s.heap H locs) (isC isR isN : List Nat) (wr : va_W) (wn : V → B → va_W) {ci : Nat} {fs : List Value} {q : vw_C} (hc : cls[ci]? = some q) (he : wc[0]? = some (b, .inr (ci, fs)))
    (hM : CTi l y (wM y bytes maxL ret) rm mc ms D tys (.ref b :: As) wc H.size Q w1) (h1 : Cond.methodLink y0.cls idx y ∈ TG) (h2 : Cond.sameMethod y.cls y.cls y.name y.desc ∈ TG) (h3 : (Cond.selects q.1 y y).before args s = true) (h4 : Cond.instanceMethod y ∈ TG) (h5 : Cond.initialized y.cls ∈ TG) (h6 : Cond.code y bytes maxL ret ∈ TG) (nA : Nat) (hnA : As.length = nA) (hd : y.cls ≠ "java/lang/invoke/MethodHandle" ∧ y.cls ≠ "java/lang/invoke/VarHandle" ∧ (parseMethodDescriptor y.desc).map (fun d => d.parameters.length) = some nA) (hrc : rm.cells = mc) (hrs : rm.slots = ms) (hRm : rm.frames + 1 ≤ R.frames ∧ 8 + (maxL + 11) + rm.locals ≤ R.locals)
    (hC : isC.map (fun i => ws[i]?) = wc.map some) (hR : isR.map (fun i => ws[i]?) = wr.map some) (hnC : va_nd isC = true) (hn : va_nd isR = true) (hdis : ∀ i ∈ isR, i ∉ isC) (hnN : va_nd isN = true) (hN : ∀ v b, isN.map (fun i => (wr ++ w1 v b)[i]?) = (wn v b).map some)
    (hsize : ls.size = nL) (hst : st0 = As.reverse ++ .ref b :: rest) (hroom : (rest.map fun v => v.category).sum ≤ 8) (hdg : decode cc pc = .ok (.invokevirtual idx, 3)) (hf : cells + mc ≤ R.cells ∧ slots + ms ≤ R.slots)
    (kk : ∀ (r : Int32) (v : V) (b : B) (H1 : Heap) (locs1 : List Loc), Q r v → va_P D cls (wn v b) H1 → va_D A (wn v b) → va_S A s.heap H1 locs1 → W p l e R s m args below meth c H1 locs1 (cells + mc) (slots + ms) Qw (F0 m (pc + 3) ls (.int r :: rest))) : W p l e R s m args below meth c H locs cells slots Qw (F0 m pc ls st0) := by
  subst hnA
  have hA : ∀ q : Nat, s.heap.size ≤ q → A q := C0.2.2.2.2.2.2.2.2.1
  have hF := va_free (wc := wc) hD hS hA isC hC
  have hPc := hP.sub isC (kon_fm hC)
  have hDc := hD.sub isC hnC hC
  exact kon_i (Q := Q) (w1 := w1) (wc := wc) (wr := wr) wn isC isR isN hP hD hS hF hC hR hn hdis hnN hN (run_U C0 hPc hDc hS hF hc he hM h1 h2 h3 h4 h5 h6 hd hrc hrs hRm hsize hst hroom hdg hf) kk
theorem call_U_v {V B : Type} {Q : V → Prop} {w1 : V → B → va_W} (C0 : gC p s m meth c cc nL ret0 y0 args A D tys) (hP : va_P D cls ws H) (hD : va_D A ws) (hS : va_S A s.heap H locs) (isC isR isN : List Nat) (wr : va_W) (wn : V → B → va_W) {ci : Nat} {fs : List Value} {q : vw_C} (hc : cls[ci]? = some q) (he : wc[0]? = some (b, .inr (ci, fs)))
    (hM : CTv l y (wM y bytes maxL ret) rm mc ms D tys (.ref b :: As) wc H.size Q w1) (h1 : Cond.methodLink y0.cls idx y ∈ TG) (h2 : Cond.sameMethod y.cls y.cls y.name y.desc ∈ TG) (h3 : (Cond.selects q.1 y y).before args s = true) (h4 : Cond.instanceMethod y ∈ TG) (h5 : Cond.initialized y.cls ∈ TG) (h6 : Cond.code y bytes maxL ret ∈ TG) (nA : Nat) (hnA : As.length = nA) (hd : y.cls ≠ "java/lang/invoke/MethodHandle" ∧ y.cls ≠ "java/lang/invoke/VarHandle" ∧ (parseMethodDescriptor y.desc).map (fun d => d.parameters.length) = some nA) (hrc : rm.cells = mc) (hrs : rm.slots = ms) (hRm : rm.frames + 1 ≤ R.frames ∧ 8 + (maxL + 11) + rm.locals ≤ R.locals)
    (hC : isC.map (fun i => ws[i]?) = wc.map some) (hR : isR.map (fun i => ws[i]?) = wr.map some) (hnC : va_nd isC = true) (hn : va_nd isR = true) (hdis : ∀ i ∈ isR, i ∉ isC) (hnN : va_nd isN = true) (hN : ∀ v b, isN.map (fun i => (wr ++ w1 v b)[i]?) = (wn v b).map some)
    (hsize : ls.size = nL) (hst : st0 = As.reverse ++ .ref b :: rest) (hroom : (rest.map fun v => v.category).sum ≤ 8) (hdg : decode cc pc = .ok (.invokevirtual idx, 3)) (hf : cells + mc ≤ R.cells ∧ slots + ms ≤ R.slots)
    (kk : ∀ (v : V) (b : B) (H1 : Heap) (locs1 : List Loc), Q v → va_P D cls (wn v b) H1 → va_D A (wn v b) → va_S A s.heap H1 locs1 → W p l e R s m args below meth c H1 locs1 (cells + mc) (slots + ms) Qw (F0 m (pc + 3) ls rest)) : W p l e R s m args below meth c H locs cells slots Qw (F0 m pc ls st0) := by
  subst hnA
  have hA : ∀ q : Nat, s.heap.size ≤ q → A q := C0.2.2.2.2.2.2.2.2.1
  have hF := va_free (wc := wc) hD hS hA isC hC
  have hPc := hP.sub isC (kon_fm hC)
  have hDc := hD.sub isC hnC hC
  exact kon_v (Q := Q) (w1 := w1) (wc := wc) (wr := wr) wn isC isR isN hP hD hS hF hC hR hn hdis hnN hN (run_U C0 hPc hDc hS hF hc he hM h1 h2 h3 h4 h5 h6 hd hrc hrs hRm hsize hst hroom hdg hf) kk
theorem call_SU_i {V B : Type} {Q : Int32 → V → Prop} {w1 : V → B → va_W} (C0 : gC p s m meth c cc nL ret0 y0 args A D tys) (hP : va_P D cls ws H) (hD : va_D A ws) (hS : va_S A s.heap H locs) (isC isR isN : List Nat) (wr : va_W) (wn : V → B → va_W) {ci : Nat} {fs : List Value} {q : vw_C} (hc : cls[ci]? = some q) (he : wc[0]? = some (b, .inr (ci, fs)))
    (hM : CTi l y (wM y bytes maxL ret) rm mc ms D tys (.ref b :: As) wc H.size Q w1) (h1 : Cond.methodLink y0.cls idx y ∈ TG) (h2 : Cond.sameMethod y.cls y.cls y.name y.desc ∈ TG) (h3 : Cond.superclass y0.cls y.cls ∈ TG) (h4 : Cond.instanceMethod y ∈ TG) (h5 : Cond.initialized y.cls ∈ TG) (h6 : Cond.code y bytes maxL ret ∈ TG) (hno : y.name ≠ "<init>") (nA : Nat) (hnA : As.length = nA) (hd : y.cls ≠ "java/lang/invoke/MethodHandle" ∧ y.cls ≠ "java/lang/invoke/VarHandle" ∧ (parseMethodDescriptor y.desc).map (fun d => d.parameters.length) = some nA) (hrc : rm.cells = mc) (hrs : rm.slots = ms) (hRm : rm.frames + 1 ≤ R.frames ∧ 8 + (maxL + 11) + rm.locals ≤ R.locals)
    (hC : isC.map (fun i => ws[i]?) = wc.map some) (hR : isR.map (fun i => ws[i]?) = wr.map some) (hnC : va_nd isC = true) (hn : va_nd isR = true) (hdis : ∀ i ∈ isR, i ∉ isC) (hnN : va_nd isN = true) (hN : ∀ v b, isN.map (fun i => (wr ++ w1 v b)[i]?) = (wn v b).map some)
    (hsize : ls.size = nL) (hst : st0 = As.reverse ++ .ref b :: rest) (hroom : (rest.map fun v => v.category).sum ≤ 8) (hdg : decode cc pc = .ok (.invokespecial idx, 3)) (hf : cells + mc ≤ R.cells ∧ slots + ms ≤ R.slots)
    (kk : ∀ (r : Int32) (v : V) (b : B) (H1 : Heap) (locs1 : List Loc), Q r v → va_P D cls (wn v b) H1 → va_D A (wn v b) → va_S A s.heap H1 locs1 → W p l e R s m args below meth c H1 locs1 (cells + mc) (slots + ms) Qw (F0 m (pc + 3) ls (.int r :: rest))) : W p l e R s m args below meth c H locs cells slots Qw (F0 m pc ls st0) := by
  subst hnA
  have hA : ∀ q : Nat, s.heap.size ≤ q → A q := C0.2.2.2.2.2.2.2.2.1
  have hF := va_free (wc := wc) hD hS hA isC hC
  have hPc := hP.sub isC (kon_fm hC)
  have hDc := hD.sub isC hnC hC
  exact kon_i (Q := Q) (w1 := w1) (wc := wc) (wr := wr) wn isC isR isN hP hD hS hF hC hR hn hdis hnN hN (run_SU C0 hPc hDc hS hF hc he hM h1 h2 h3 h4 h5 h6 hno hd hrc hrs hRm hsize hst hroom hdg hf) kk
theorem call_SU_v {V B : Type} {Q : V → Prop} {w1 : V → B → va_W} (C0 : gC p s m meth c cc nL ret0 y0 args A D tys) (hP : va_P D cls ws H) (hD : va_D A ws) (hS : va_S A s.heap H locs) (isC isR isN : List Nat) (wr : va_W) (wn : V → B → va_W) {ci : Nat} {fs : List Value} {q : vw_C} (hc : cls[ci]? = some q) (he : wc[0]? = some (b, .inr (ci, fs)))
    (hM : CTv l y (wM y bytes maxL ret) rm mc ms D tys (.ref b :: As) wc H.size Q w1) (h1 : Cond.methodLink y0.cls idx y ∈ TG) (h2 : Cond.sameMethod y.cls y.cls y.name y.desc ∈ TG) (h3 : Cond.superclass y0.cls y.cls ∈ TG) (h4 : Cond.instanceMethod y ∈ TG) (h5 : Cond.initialized y.cls ∈ TG) (h6 : Cond.code y bytes maxL ret ∈ TG) (hno : y.name ≠ "<init>") (nA : Nat) (hnA : As.length = nA) (hd : y.cls ≠ "java/lang/invoke/MethodHandle" ∧ y.cls ≠ "java/lang/invoke/VarHandle" ∧ (parseMethodDescriptor y.desc).map (fun d => d.parameters.length) = some nA) (hrc : rm.cells = mc) (hrs : rm.slots = ms) (hRm : rm.frames + 1 ≤ R.frames ∧ 8 + (maxL + 11) + rm.locals ≤ R.locals)
    (hC : isC.map (fun i => ws[i]?) = wc.map some) (hR : isR.map (fun i => ws[i]?) = wr.map some) (hnC : va_nd isC = true) (hn : va_nd isR = true) (hdis : ∀ i ∈ isR, i ∉ isC) (hnN : va_nd isN = true) (hN : ∀ v b, isN.map (fun i => (wr ++ w1 v b)[i]?) = (wn v b).map some)
    (hsize : ls.size = nL) (hst : st0 = As.reverse ++ .ref b :: rest) (hroom : (rest.map fun v => v.category).sum ≤ 8) (hdg : decode cc pc = .ok (.invokespecial idx, 3)) (hf : cells + mc ≤ R.cells ∧ slots + ms ≤ R.slots)
    (kk : ∀ (v : V) (b : B) (H1 : Heap) (locs1 : List Loc), Q v → va_P D cls (wn v b) H1 → va_D A (wn v b) → va_S A s.heap H1 locs1 → W p l e R s m args below meth c H1 locs1 (cells + mc) (slots + ms) Qw (F0 m (pc + 3) ls rest)) : W p l e R s m args below meth c H locs cells slots Qw (F0 m pc ls st0) := by
  subst hnA
  have hA : ∀ q : Nat, s.heap.size ≤ q → A q := C0.2.2.2.2.2.2.2.2.1
  have hF := va_free (wc := wc) hD hS hA isC hC
  have hPc := hP.sub isC (kon_fm hC)
  have hDc := hD.sub isC hnC hC
  exact kon_v (Q := Q) (w1 := w1) (wc := wc) (wr := wr) wn isC isR isN hP hD hS hF hC hR hn hdis hnN hN (run_SU C0 hPc hDc hS hF hc he hM h1 h2 h3 h4 h5 h6 hno hd hrc hrs hRm hsize hst hroom hdg hf) kk
theorem call_SU_r {V B : Type} {Q : V → Prop} {w1 : V → B → va_W} {ra : V → B → Nat} (C0 : gC p s m meth c cc nL ret0 y0 args A D tys) (hP : va_P D cls ws H) (hD : va_D A ws) (hS : va_S A s.heap H locs) (isC isR isN : List Nat) (wr : va_W) (wn : V → B → va_W) {ci : Nat} {fs : List Value} {q : vw_C} (hc : cls[ci]? = some q) (he : wc[0]? = some (b, .inr (ci, fs)))
    (hM : CTr l y (wM y bytes maxL ret) rm mc ms D tys (.ref b :: As) wc H.size Q w1 ra) (h1 : Cond.methodLink y0.cls idx y ∈ TG) (h2 : Cond.sameMethod y.cls y.cls y.name y.desc ∈ TG) (h3 : Cond.superclass y0.cls y.cls ∈ TG) (h4 : Cond.instanceMethod y ∈ TG) (h5 : Cond.initialized y.cls ∈ TG) (h6 : Cond.code y bytes maxL ret ∈ TG) (hno : y.name ≠ "<init>") (nA : Nat) (hnA : As.length = nA) (hd : y.cls ≠ "java/lang/invoke/MethodHandle" ∧ y.cls ≠ "java/lang/invoke/VarHandle" ∧ (parseMethodDescriptor y.desc).map (fun d => d.parameters.length) = some nA) (hrc : rm.cells = mc) (hrs : rm.slots = ms) (hRm : rm.frames + 1 ≤ R.frames ∧ 8 + (maxL + 11) + rm.locals ≤ R.locals)
    (hC : isC.map (fun i => ws[i]?) = wc.map some) (hR : isR.map (fun i => ws[i]?) = wr.map some) (hnC : va_nd isC = true) (hn : va_nd isR = true) (hdis : ∀ i ∈ isR, i ∉ isC) (hnN : va_nd isN = true) (hN : ∀ v b, isN.map (fun i => (wr ++ w1 v b)[i]?) = (wn v b).map some)
    (hsize : ls.size = nL) (hst : st0 = As.reverse ++ .ref b :: rest) (hroom : (rest.map fun v => v.category).sum ≤ 8) (hdg : decode cc pc = .ok (.invokespecial idx, 3)) (hf : cells + mc ≤ R.cells ∧ slots + ms ≤ R.slots)
    (kk : ∀ (v : V) (b : B) (H1 : Heap) (locs1 : List Loc), Q v → va_P D cls (wn v b) H1 → va_D A (wn v b) → va_S A s.heap H1 locs1 → W p l e R s m args below meth c H1 locs1 (cells + mc) (slots + ms) Qw (F0 m (pc + 3) ls (.ref (ra v b) :: rest))) : W p l e R s m args below meth c H locs cells slots Qw (F0 m pc ls st0) := by
  subst hnA
  have hA : ∀ q : Nat, s.heap.size ≤ q → A q := C0.2.2.2.2.2.2.2.2.1
  have hF := va_free (wc := wc) hD hS hA isC hC
  have hPc := hP.sub isC (kon_fm hC)
  have hDc := hD.sub isC hnC hC
  exact kon_r (Q := Q) (w1 := w1) (wc := wc) (wr := wr) (ra := ra) wn isC isR isN hP hD hS hF hC hR hn hdis hnN hN (run_SU C0 hPc hDc hS hF hc he hM h1 h2 h3 h4 h5 h6 hno hd hrc hrs hRm hsize hst hroom hdg hf) kk
end BCM
