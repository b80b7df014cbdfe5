-- what all contracts here share: the tables' words whole, three classes of arrays, the two static rows of Rules
abbrev GG : Type := va_G × ((ClassId × (ClassId × ClassId)) × (Nat × Nat))
abbrev tyG (g : GG) : List (ClassId × FieldType) := [(g.2.1.1, .int), (g.2.1.2.1, .long), (g.2.1.2.2, .boolean)]
abbrev cI (g : GG) : ClassId := g.2.1.1
abbrev cJ (g : GG) : ClassId := g.2.1.2.1
abbrev cZ (g : GG) : ClassId := g.2.1.2.2
def letters8 : Nat → Value := fun j => .int ([83, 70, 84, 77, 75, 78, 80, 72].getD j 0)
def defaults8 : Nat → Value := fun j => .int ([10, 20, 100, 50, 2, 60, 3, 7].getD j 0)
def stS (g : GG) (A : Nat → Prop) (U : State) (H : Heap) : Prop := (va_Z "CityRoad$Rules" "LETTERS" "[I" (.ref g.2.2.1) A U H ∧ va_T .int g.2.2.1 8 letters8 A U H) ∧ (va_Z "CityRoad$Rules" "DEFAULTS" "[I" (.ref g.2.2.2) A U H ∧ va_T .int g.2.2.2 8 defaults8 A U H)
theorem stS.moved {g : GG} {A : Nat → Prop} {u U : State} {H : Heap} (hvm : u.vm.Alike U.vm) (h : stS g A u H) : stS g A U H :=
  ⟨⟨va_Z.moved hvm h.1.1, va_T.moved hvm h.1.2⟩, ⟨va_Z.moved hvm h.2.1, va_T.moved hvm h.2.2⟩⟩
theorem stS.kept {g : GG} {A : Nat → Prop} {U : State} {H H1 : Heap} (h : stS g A U H) (hq : ∀ a : Nat, a < H.size → ¬ A a → H1[a]? = H[a]?) : stS g A U H1 :=
  ⟨⟨h.1.1.kept hq, h.1.2.kept hq⟩, ⟨h.2.1.kept hq, h.2.2.kept hq⟩⟩
theorem stS.narrow {g : GG} {A B : Nat → Prop} {U : State} {H : Heap} (h : stS g A U H) (hAB : ∀ q, B q → A q) : stS g B U H :=
  ⟨⟨h.1.1.narrow hAB, h.1.2.narrow hAB⟩, ⟨h.2.1.narrow hAB, h.2.2.narrow hAB⟩⟩
def pW (g : GG) (sz : Nat) (ws : va_W) (U : State) : Prop := U.heap.size = sz ∧ va_P g.1 classes ws U.heap ∧ va_K g.1 classes (tyG g) U ∧ va_D (fun _ => True) ws ∧ stS g (va_A ws sz) U U.heap
def bW (g : GG) (A : Nat → Prop) (w : va_W) (t : State) : Prop := va_P g.1 classes w t.heap ∧ va_K g.1 classes (tyG g) t ∧ va_D A w
def MI (l : Launch) (g : GG) (y : MethodName) (cc : ByteArray) (n : Nat) (ret : Option FieldType) (fr lo mc ms : Nat) (ws : va_W) (av : List Value) (post : Int32 → va_W → Prop) : Prop :=
  ∀ sz : Nat, Met l y (.code y cc n ret :: tb) { frames := fr, cells := mc, slots := ms, locals := lo } (va_Pc av (pW g sz ws)) (va_Qi post (bW g (va_A ws sz)) (va_A ws sz)) mc ms (va_A ws sz)
def ML (l : Launch) (g : GG) (y : MethodName) (cc : ByteArray) (n : Nat) (ret : Option FieldType) (fr lo mc ms : Nat) (ws : va_W) (av : List Value) (post : Int64 → va_W → Prop) : Prop :=
  ∀ sz : Nat, Met l y (.code y cc n ret :: tb) { frames := fr, cells := mc, slots := ms, locals := lo } (va_Pc av (pW g sz ws)) (va_Ql post (bW g (va_A ws sz)) (va_A ws sz)) mc ms (va_A ws sz)
def MV (l : Launch) (g : GG) (y : MethodName) (cc : ByteArray) (n : Nat) (fr lo mc ms : Nat) (ws : va_W) (av : List Value) (post : va_W → Prop) : Prop :=
  ∀ sz : Nat, Met l y (.code y cc n none :: tb) { frames := fr, cells := mc, slots := ms, locals := lo } (va_Pc av (pW g sz ws)) (va_Qv post (bW g (va_A ws sz)) (va_A ws sz)) mc ms (va_A ws sz)
/-- what holds all through a method -/
def En (p : Program) (s : State) (m : MethodId) (args : Array Value) (meth : Method) (c : Code) (cc : ByteArray) (n : Nat) (ret : Option FieldType) (own nm : String) : Prop :=
  p.tables.exec = Jvm.exec ∧ c.code = cc ∧ c.maxLocals = n ∧ s.vm.findClass own = some m.cls ∧ (∀ w ∈ tb, w.before args s = true) ∧ meth.sig.returnType = ret ∧ meth.locks = false ∧ meth.name = nm
theorem met_of {l : Launch} {g : GG} {y : MethodName} {cc : ByteArray} {n : Nat} {ret : Option FieldType} {fr lo mc ms : Nat} {ws : va_W} {av : List Value} (Qc : (Nat → Prop) → Array Value → State → Outcome → State → Prop) (hy : plainName y.cls = true) (hav : (lg_sl av).length ≤ n)
    (body : ∀ (p : Program) (e : Env) (s : State) (m : MethodId) (below : List Frame) (meth : Method) (c : Code) (A : Nat → Prop) (ls : Array Slot), En p s m av.toArray meth c cc n ret y.cls y.name → va_K g.1 classes (tyG g) s → va_P g.1 classes ws s.heap → va_D A ws → (∀ q, s.heap.size ≤ q → A q) → stS g A s s.heap → va_S A s.heap s.heap [] → lv_has ls n (lv_args 0 av) →
      W p l e { frames := fr, cells := mc, slots := ms, locals := lo } s m av.toArray below meth c s.heap [] 0 0 (MQ below (Qc A) av.toArray s mc ms A) (F0 m 0 ls [])) (sz : Nat) :
    Met l y (.code y cc n ret :: tb) { frames := fr, cells := mc, slots := ms, locals := lo } (va_Pc av (pW g sz ws)) (Qc (va_A ws sz)) mc ms (va_A ws sz) := by
  refine Met.ofW (cc := cc) (maxL := n) (ret := ret) hy rfl ?_
  intro p e s m args below meth c s₁ B hml hv
  obtain ⟨rfl, hsz, hP, hK, hD0, hZ⟩ := hv
  subst hsz
  have hts := atoms_spec (ws := .code y cc n ret :: tb) B.pre
  have hl := lv_entry av (n := n) hav
  rw [lg_entry_eq]
  exact body p e s m below meth c (va_A ws s.heap.size) _ ⟨B.exec, B.bytes, hml, findClass_of_methodNamed B.named, fun w hw => hts w (List.mem_cons_of_mem _ hw), B.returns, B.notSynchronized, (name_of_methodNamed B.named B.method).1⟩ hK hP hD0.self (fun q h => Or.inr h) hZ va_S.rf hl
section RET
variable {p : Program} {l : Launch} {e : Env} {R : Room} {s : State} {m : MethodId} {args : Array Value} {below : List Frame} {meth : Method} {c : Code} {H : Heap} {locs : List Loc} {cells slots mc ms : Nat}
variable {cc : ByteArray} {pc n : Nat} {ls : Array Slot} {g : GG} {A : Nat → Prop} {ws : va_W} {ret : Option FieldType} {own nm : String}
theorem rI {v : Int32} {ty : FieldType} {post : Int32 → va_W → Prop} (X : En p s m args meth c cc n (some ty) own nm) (hK : va_K g.1 classes (tyG g) s) (hP : va_P g.1 classes ws H) (hD : va_D A ws) (hS : va_S A s.heap H locs) (hdg : decode cc pc = .ok (.ireturn, 1)) (hn : narrow ty (.int v) = .int v) (hc : cells ≤ mc) (hs : slots ≤ ms) (hp : post v ws) : W p l e R s m args below meth c H locs cells slots (MQ below (va_Qi post (bW g A) A) args s mc ms A) (F0 m pc ls [.int v]) := by
  refine W.widen (k := mc) (n := ms) hc hs ?_
  exact W.zret (v := v) (ty := ty) X.1 X.2.1 X.2.2.2.2.2.1 hn (fun t ht hW => ⟨⟨v, ws, rfl, hp, by rw [ht]; exact hP, va_K.moved hW.alike hK, hD⟩, hS.F ht⟩) hS.2.2 hdg X.2.2.2.2.2.2.1
theorem rL {v : Int64} {post : Int64 → va_W → Prop} (X : En p s m args meth c cc n (some .long) own nm) (hK : va_K g.1 classes (tyG g) s) (hP : va_P g.1 classes ws H) (hD : va_D A ws) (hS : va_S A s.heap H locs) (hdg : decode cc pc = .ok (.lreturn, 1)) (hc : cells ≤ mc) (hs : slots ≤ ms) (hp : post v ws) : W p l e R s m args below meth c H locs cells slots (MQ below (va_Ql post (bW g A) A) args s mc ms A) (F0 m pc ls [.long v]) := by
  refine W.widen (k := mc) (n := ms) hc hs ?_
  exact W.lret (v := v) X.1 X.2.1 X.2.2.2.2.2.1 (fun t ht hW => ⟨⟨v, ws, rfl, hp, by rw [ht]; exact hP, va_K.moved hW.alike hK, hD⟩, hS.F ht⟩) hS.2.2 hdg X.2.2.2.2.2.2.1
theorem rV {post : va_W → Prop} (X : En p s m args meth c cc n none own nm) (hK : va_K g.1 classes (tyG g) s) (hP : va_P g.1 classes ws H) (hD : va_D A ws) (hS : va_S A s.heap H locs) (hdg : decode cc pc = .ok (.return_, 1)) (hc : cells ≤ mc) (hs : slots ≤ ms) (hp : post ws) : W p l e R s m args below meth c H locs cells slots (MQ below (va_Qv post (bW g A) A) args s mc ms A) (F0 m pc ls []) := by
  refine W.widen (k := mc) (n := ms) hc hs ?_
  exact W.vret X.1 X.2.1 X.2.2.2.2.2.1 (fun t ht hW => ⟨⟨ws, rfl, hp, by rw [ht]; exact hP, va_K.moved hW.alike hK, hD⟩, hS.F ht⟩) hS.2.2 hdg X.2.2.2.2.2.2.1
end RET
/-- what a call needs of its callee, said once a method -/
def okM (y : MethodName) (cc : ByteArray) (n : Nat) (ret : Option FieldType) (k : Nat) : Prop :=
  Cond.code y cc n ret ∈ tb ∧ Cond.initialized y.cls ∈ tb ∧ (y.cls ≠ "java/lang/invoke/MethodHandle" ∧ y.cls ≠ "java/lang/invoke/VarHandle" ∧ (parseMethodDescriptor y.desc).map (fun d => d.parameters.length) = some k)
def okV (y : MethodName) : Prop := Cond.instanceMethod y ∈ tb ∧ Cond.selects y.cls y y ∈ tb
theorem gd_y {y : MethodName} {cc : ByteArray} {n k : Nat} {ret : Option FieldType} (h : okM y cc n ret k) : GoodIn tb (.code y cc n ret :: tb) := by
  intro w hw
  have hm : w ∈ tb := by
    rcases List.mem_cons.mp hw with q | q
    · rw [q]; exact h.1
    · exact q
  exact ⟨hm, good_of_word (List.mem_filter.mp hm).2⟩
theorem cb_y {R : Room} {s : State} {args : Array Value} {own : String} {index : Nat} {y : MethodName} {cc : ByteArray} {n k : Nat} {ret : Option FieldType} {fr lo mc ms : Nat} (hts : ∀ w ∈ tb, w.before args s = true) (h : okM y cc n ret k) (hl : Cond.methodLink own index y ∈ tb) (hR : fr + 1 ≤ R.frames ∧ 8 + (n + 11) + lo ≤ R.locals) : CallB R s args own index y cc n ret (.code y cc n ret :: tb) { frames := fr, cells := mc, slots := ms, locals := lo } mc ms k :=
  callB_of (Ts := tb) k hts (gd_y h) rfl rfl rfl (hts _ h.2.1) (hts _ hl) h.2.2 hR
theorem pSub {D : va_G} {cl : List vw_C} {ws ws' : va_W} {H : Heap} (h : va_P D cl ws H) (is : List Nat) (hs : is.map (fun i => ws[i]?) = ws'.map some) : va_P D cl ws' H := by
  intro k q hq
  have h1 : (is.map (fun i => ws[i]?))[k]? = some (some q) := by rw [hs, List.getElem?_map, hq]; rfl
  rw [List.getElem?_map] at h1
  cases hi : is[k]? with
  | none => rw [hi] at h1; cases h1
  | some i => rw [hi] at h1; exact h i q (Option.some.inj h1)
theorem dis_of {a b : List Nat} (h : a.all (fun i => !b.contains i) = true) : ∀ i ∈ a, i ∉ b := fun i hi hb => by
  have h1 := List.all_eq_true.mp h i hi
  simp at h1
  exact h1 hb
section CALLS
variable {p : Program} {l : Launch} {e : Env} {R : Room} {s : State} {m : MethodId} {args : Array Value} {below : List Frame} {meth : Method} {c : Code} {H : Heap} {locs : List Loc} {cells slots mc ms : Nat} {Q : State → Prop}
variable {bb cc : ByteArray} {pc N n k index fr lo : Nat} {ls : Array Slot} {g : GG} {A : Nat → Prop} {ws wc wr : va_W} {ret rt : Option FieldType} {own nm : String} {y : MethodName} {b : Nat} {As rest st : List Value}
theorem pre_blind {g : GG} {sz : Nat} {ws : va_W} {av : List Value} : FrameBlind (va_Pc av (pW g sz ws)) := fun a U gg mk q => by
  obtain ⟨q0, q1, qP, qK, qD, qZ⟩ := q
  exact ⟨q0, q1, qP, va_K.moved (u := U) (U := U.calling gg mk a) (Vm.Alike.refl U.vm) qK, qD, stS.moved (u := U) (U := U.calling gg mk a) (Vm.Alike.refl U.vm) qZ⟩
theorem pre_at {av : List Value} (hK : va_K g.1 classes (tyG g) s) (hZ : stS g A s s.heap) (hS : va_S A s.heap H locs) (hPc : va_P g.1 classes wc H) (hDc : va_D A wc) (hFc : ∀ q, va_A wc H.size q → A q) : ∀ U : State, U.heap = H → s.WarmedH U.vm → va_Pc av (pW g H.size wc) av.toArray U := fun U hU hW =>
  ⟨rfl, by rw [hU], by rw [hU]; exact hPc, va_K.moved hW.alike hK, hDc.weaken (fun _ _ _ _ => trivial), by rw [hU]; exact ((stS.moved hW.alike hZ).kept (fun a h1 h2 => hS.2.1 a h1 h2)).narrow hFc⟩
theorem kVi {post : Int32 → va_W → Prop} (X : En p s m args meth c cc N rt own nm) (hM : MI l g y bb n ret fr lo mc ms wc (.ref b :: As) post) (ok : okM y bb n ret k) (okv : okV y) (hl : Cond.methodLink own index y ∈ tb) (hAs : As.length = k)
    (hK : va_K g.1 classes (tyG g) s) (hP : va_P g.1 classes ws H) (hD : va_D A ws) (hS : va_S A s.heap H locs) (hA : ∀ q, s.heap.size ≤ q → A q) (hZ : stS g A s s.heap) (hls : ls.size = N)
    (isC isR : List Nat) (hC : isC.map (fun i => ws[i]?) = wc.map some) (hRs : isR.map (fun i => ws[i]?) = wr.map some) (hnC : va_nd isC = true) (hnR : va_nd isR = true) (hdis : isR.all (fun i => !isC.contains i) = true)
    (q0 ci : Nat) {fs : List Value} {T : u_T} {NC : Nat} (he : wc[q0]? = some (b, .inr (ci, fs))) (hci : classes[ci]? = some (y.cls, T, NC)) (hst : st = As.reverse ++ .ref b :: rest) (hro : (rest.map fun v => v.category).sum ≤ 8) (hR : fr + 1 ≤ R.frames ∧ 8 + (n + 11) + lo ≤ R.locals) (hdg : decode cc pc = .ok (.invokevirtual index, 3)) (hf : cells + mc ≤ R.cells ∧ slots + ms ≤ R.slots)
    (kk : ∀ (r : Int32) (w1 : va_W) (H1 : Heap) (locs1 : List Loc), post r w1 → va_P g.1 classes (wr ++ w1) H1 → va_D A (wr ++ w1) → va_S A s.heap H1 locs1 → W p l e R s m args below meth c H1 locs1 (cells + mc) (slots + ms) Q (F0 m (pc + 3) ls (.int r :: rest))) : W p l e R s m args below meth c H locs cells slots Q (F0 m pc ls st) := by
  subst hst
  have hPc := pSub hP isC hC
  have hDc := hD.sub isC hnC hC
  have hFc := va_free hD hS hA isC hC
  refine va_calli (va_runV (As := As) (rest := rest) ⟨X.1, X.2.1, X.2.2.1, X.2.2.2.1, X.2.2.2.2.1⟩ (hM H.size) (⟨cb_y X.2.2.2.2.1 ok hl hR, X.2.2.2.2.1 _ okv.1, X.2.2.2.2.1 _ okv.2⟩ : CallW R s args own y.cls index y bb n ret (.code y bb n ret :: tb) { frames := fr, cells := mc, slots := ms, locals := lo } mc ms k) ⟨pre_blind, va_recv hK hPc hci he, pre_at hK hZ hS hPc hDc hFc⟩ rfl hAs hls rfl (lv_room hro) hdg hf) hS (fun q _ h => hFc q h) hFc (fun r u t H1 locs1 ht hvm hw hB hz1 hk1 hS1 => ?_)
  obtain ⟨hP1, hK1, hD1⟩ := hB
  rw [ht] at hP1
  obtain ⟨hP2, hD2⟩ := va_join hP hD isC isR hC hRs hnR (dis_of hdis) hk1 hFc hP1 hD1
  exact kk r u H1 locs1 hw hP2 hD2 hS1
theorem kVl {post : Int64 → va_W → Prop} (X : En p s m args meth c cc N rt own nm) (hM : ML l g y bb n ret fr lo mc ms wc (.ref b :: As) post) (ok : okM y bb n ret k) (okv : okV y) (hl : Cond.methodLink own index y ∈ tb) (hAs : As.length = k)
    (hK : va_K g.1 classes (tyG g) s) (hP : va_P g.1 classes ws H) (hD : va_D A ws) (hS : va_S A s.heap H locs) (hA : ∀ q, s.heap.size ≤ q → A q) (hZ : stS g A s s.heap) (hls : ls.size = N)
    (isC isR : List Nat) (hC : isC.map (fun i => ws[i]?) = wc.map some) (hRs : isR.map (fun i => ws[i]?) = wr.map some) (hnC : va_nd isC = true) (hnR : va_nd isR = true) (hdis : isR.all (fun i => !isC.contains i) = true)
    (q0 ci : Nat) {fs : List Value} {T : u_T} {NC : Nat} (he : wc[q0]? = some (b, .inr (ci, fs))) (hci : classes[ci]? = some (y.cls, T, NC)) (hst : st = As.reverse ++ .ref b :: rest) (hro : (rest.map fun v => v.category).sum ≤ 8) (hR : fr + 1 ≤ R.frames ∧ 8 + (n + 11) + lo ≤ R.locals) (hdg : decode cc pc = .ok (.invokevirtual index, 3)) (hf : cells + mc ≤ R.cells ∧ slots + ms ≤ R.slots)
    (kk : ∀ (r : Int64) (w1 : va_W) (H1 : Heap) (locs1 : List Loc), post r w1 → va_P g.1 classes (wr ++ w1) H1 → va_D A (wr ++ w1) → va_S A s.heap H1 locs1 → W p l e R s m args below meth c H1 locs1 (cells + mc) (slots + ms) Q (F0 m (pc + 3) ls (.long r :: rest))) : W p l e R s m args below meth c H locs cells slots Q (F0 m pc ls st) := by
  subst hst
  have hPc := pSub hP isC hC
  have hDc := hD.sub isC hnC hC
  have hFc := va_free hD hS hA isC hC
  refine va_calll (va_runV (As := As) (rest := rest) ⟨X.1, X.2.1, X.2.2.1, X.2.2.2.1, X.2.2.2.2.1⟩ (hM H.size) (⟨cb_y X.2.2.2.2.1 ok hl hR, X.2.2.2.2.1 _ okv.1, X.2.2.2.2.1 _ okv.2⟩ : CallW R s args own y.cls index y bb n ret (.code y bb n ret :: tb) { frames := fr, cells := mc, slots := ms, locals := lo } mc ms k) ⟨pre_blind, va_recv hK hPc hci he, pre_at hK hZ hS hPc hDc hFc⟩ rfl hAs hls rfl (lv_room hro) hdg hf) hS (fun q _ h => hFc q h) hFc (fun r u t H1 locs1 ht hvm hw hB hz1 hk1 hS1 => ?_)
  obtain ⟨hP1, hK1, hD1⟩ := hB
  rw [ht] at hP1
  obtain ⟨hP2, hD2⟩ := va_join hP hD isC isR hC hRs hnR (dis_of hdis) hk1 hFc hP1 hD1
  exact kk r u H1 locs1 hw hP2 hD2 hS1
theorem kVv {post : va_W → Prop} (X : En p s m args meth c cc N rt own nm) (hM : MV l g y bb n fr lo mc ms wc (.ref b :: As) post) (ok : okM y bb n none k) (okv : okV y) (hl : Cond.methodLink own index y ∈ tb) (hAs : As.length = k)
    (hK : va_K g.1 classes (tyG g) s) (hP : va_P g.1 classes ws H) (hD : va_D A ws) (hS : va_S A s.heap H locs) (hA : ∀ q, s.heap.size ≤ q → A q) (hZ : stS g A s s.heap) (hls : ls.size = N)
    (isC isR : List Nat) (hC : isC.map (fun i => ws[i]?) = wc.map some) (hRs : isR.map (fun i => ws[i]?) = wr.map some) (hnC : va_nd isC = true) (hnR : va_nd isR = true) (hdis : isR.all (fun i => !isC.contains i) = true)
    (q0 ci : Nat) {fs : List Value} {T : u_T} {NC : Nat} (he : wc[q0]? = some (b, .inr (ci, fs))) (hci : classes[ci]? = some (y.cls, T, NC)) (hst : st = As.reverse ++ .ref b :: rest) (hro : (rest.map fun v => v.category).sum ≤ 8) (hR : fr + 1 ≤ R.frames ∧ 8 + (n + 11) + lo ≤ R.locals) (hdg : decode cc pc = .ok (.invokevirtual index, 3)) (hf : cells + mc ≤ R.cells ∧ slots + ms ≤ R.slots)
    (kk : ∀ (w1 : va_W) (H1 : Heap) (locs1 : List Loc), post w1 → va_P g.1 classes (wr ++ w1) H1 → va_D A (wr ++ w1) → va_S A s.heap H1 locs1 → W p l e R s m args below meth c H1 locs1 (cells + mc) (slots + ms) Q (F0 m (pc + 3) ls rest)) : W p l e R s m args below meth c H locs cells slots Q (F0 m pc ls st) := by
  subst hst
  have hPc := pSub hP isC hC
  have hDc := hD.sub isC hnC hC
  have hFc := va_free hD hS hA isC hC
  refine va_callv (va_runV (As := As) (rest := rest) ⟨X.1, X.2.1, X.2.2.1, X.2.2.2.1, X.2.2.2.2.1⟩ (hM H.size) (⟨cb_y X.2.2.2.2.1 ok hl hR, X.2.2.2.2.1 _ okv.1, X.2.2.2.2.1 _ okv.2⟩ : CallW R s args own y.cls index y bb n none (.code y bb n none :: tb) { frames := fr, cells := mc, slots := ms, locals := lo } mc ms k) ⟨pre_blind, va_recv hK hPc hci he, pre_at hK hZ hS hPc hDc hFc⟩ rfl hAs hls rfl (lv_room hro) hdg hf) hS (fun q _ h => hFc q h) hFc (fun u t H1 locs1 ht hvm hw hB hz1 hk1 hS1 => ?_)
  obtain ⟨hP1, hK1, hD1⟩ := hB
  rw [ht] at hP1
  obtain ⟨hP2, hD2⟩ := va_join hP hD isC isR hC hRs hnR (dis_of hdis) hk1 hFc hP1 hD1
  exact kk u H1 locs1 hw hP2 hD2 hS1
theorem kSi {post : Int32 → va_W → Prop} (X : En p s m args meth c cc N rt own nm) (hM : MI l g y bb n ret fr lo mc ms wc As post) (ok : okM y bb n ret k) (oks : Cond.static y ∈ tb) (hl : Cond.methodLink own index y ∈ tb) (hAs : As.length = k)
    (hK : va_K g.1 classes (tyG g) s) (hP : va_P g.1 classes ws H) (hD : va_D A ws) (hS : va_S A s.heap H locs) (hA : ∀ q, s.heap.size ≤ q → A q) (hZ : stS g A s s.heap) (hls : ls.size = N)
    (isC isR : List Nat) (hC : isC.map (fun i => ws[i]?) = wc.map some) (hRs : isR.map (fun i => ws[i]?) = wr.map some) (hnC : va_nd isC = true) (hnR : va_nd isR = true) (hdis : isR.all (fun i => !isC.contains i) = true)
    (hst : st = As.reverse ++ rest) (hro : (rest.map fun v => v.category).sum ≤ 8) (hR : fr + 1 ≤ R.frames ∧ 8 + (n + 11) + lo ≤ R.locals) (hdg : decode cc pc = .ok (.invokestatic index, 3)) (hf : cells + mc ≤ R.cells ∧ slots + ms ≤ R.slots)
    (kk : ∀ (r : Int32) (w1 : va_W) (H1 : Heap) (locs1 : List Loc), post r w1 → va_P g.1 classes (wr ++ w1) H1 → va_D A (wr ++ w1) → va_S A s.heap H1 locs1 → W p l e R s m args below meth c H1 locs1 (cells + mc) (slots + ms) Q (F0 m (pc + 3) ls (.int r :: rest))) : W p l e R s m args below meth c H locs cells slots Q (F0 m pc ls st) := by
  subst hst
  have hPc := pSub hP isC hC
  have hDc := hD.sub isC hnC hC
  have hFc := va_free hD hS hA isC hC
  refine va_calli (va_runS (As := As) (rest := rest) ⟨X.1, X.2.1, X.2.2.1, X.2.2.2.1, X.2.2.2.2.1⟩ (hM H.size) ⟨cb_y X.2.2.2.2.1 ok hl hR, X.2.2.2.2.1 _ oks⟩ ⟨pre_blind, pre_at hK hZ hS hPc hDc hFc⟩ rfl hAs hls rfl (lv_room hro) hdg hf) hS (fun q _ h => hFc q h) hFc (fun r u t H1 locs1 ht hvm hw hB hz1 hk1 hS1 => ?_)
  obtain ⟨hP1, hK1, hD1⟩ := hB
  rw [ht] at hP1
  obtain ⟨hP2, hD2⟩ := va_join hP hD isC isR hC hRs hnR (dis_of hdis) hk1 hFc hP1 hD1
  exact kk r u H1 locs1 hw hP2 hD2 hS1
theorem kSl {post : Int64 → va_W → Prop} (X : En p s m args meth c cc N rt own nm) (hM : ML l g y bb n ret fr lo mc ms wc As post) (ok : okM y bb n ret k) (oks : Cond.static y ∈ tb) (hl : Cond.methodLink own index y ∈ tb) (hAs : As.length = k)
    (hK : va_K g.1 classes (tyG g) s) (hP : va_P g.1 classes ws H) (hD : va_D A ws) (hS : va_S A s.heap H locs) (hA : ∀ q, s.heap.size ≤ q → A q) (hZ : stS g A s s.heap) (hls : ls.size = N)
    (isC isR : List Nat) (hC : isC.map (fun i => ws[i]?) = wc.map some) (hRs : isR.map (fun i => ws[i]?) = wr.map some) (hnC : va_nd isC = true) (hnR : va_nd isR = true) (hdis : isR.all (fun i => !isC.contains i) = true)
    (hst : st = As.reverse ++ rest) (hro : (rest.map fun v => v.category).sum ≤ 8) (hR : fr + 1 ≤ R.frames ∧ 8 + (n + 11) + lo ≤ R.locals) (hdg : decode cc pc = .ok (.invokestatic index, 3)) (hf : cells + mc ≤ R.cells ∧ slots + ms ≤ R.slots)
    (kk : ∀ (r : Int64) (w1 : va_W) (H1 : Heap) (locs1 : List Loc), post r w1 → va_P g.1 classes (wr ++ w1) H1 → va_D A (wr ++ w1) → va_S A s.heap H1 locs1 → W p l e R s m args below meth c H1 locs1 (cells + mc) (slots + ms) Q (F0 m (pc + 3) ls (.long r :: rest))) : W p l e R s m args below meth c H locs cells slots Q (F0 m pc ls st) := by
  subst hst
  have hPc := pSub hP isC hC
  have hDc := hD.sub isC hnC hC
  have hFc := va_free hD hS hA isC hC
  refine va_calll (va_runS (As := As) (rest := rest) ⟨X.1, X.2.1, X.2.2.1, X.2.2.2.1, X.2.2.2.2.1⟩ (hM H.size) ⟨cb_y X.2.2.2.2.1 ok hl hR, X.2.2.2.2.1 _ oks⟩ ⟨pre_blind, pre_at hK hZ hS hPc hDc hFc⟩ rfl hAs hls rfl (lv_room hro) hdg hf) hS (fun q _ h => hFc q h) hFc (fun r u t H1 locs1 ht hvm hw hB hz1 hk1 hS1 => ?_)
  obtain ⟨hP1, hK1, hD1⟩ := hB
  rw [ht] at hP1
  obtain ⟨hP2, hD2⟩ := va_join hP hD isC isR hC hRs hnR (dis_of hdis) hk1 hFc hP1 hD1
  exact kk r u H1 locs1 hw hP2 hD2 hS1
theorem kSv {post : va_W → Prop} (X : En p s m args meth c cc N rt own nm) (hM : MV l g y bb n fr lo mc ms wc As post) (ok : okM y bb n none k) (oks : Cond.static y ∈ tb) (hl : Cond.methodLink own index y ∈ tb) (hAs : As.length = k)
    (hK : va_K g.1 classes (tyG g) s) (hP : va_P g.1 classes ws H) (hD : va_D A ws) (hS : va_S A s.heap H locs) (hA : ∀ q, s.heap.size ≤ q → A q) (hZ : stS g A s s.heap) (hls : ls.size = N)
    (isC isR : List Nat) (hC : isC.map (fun i => ws[i]?) = wc.map some) (hRs : isR.map (fun i => ws[i]?) = wr.map some) (hnC : va_nd isC = true) (hnR : va_nd isR = true) (hdis : isR.all (fun i => !isC.contains i) = true)
    (hst : st = As.reverse ++ rest) (hro : (rest.map fun v => v.category).sum ≤ 8) (hR : fr + 1 ≤ R.frames ∧ 8 + (n + 11) + lo ≤ R.locals) (hdg : decode cc pc = .ok (.invokestatic index, 3)) (hf : cells + mc ≤ R.cells ∧ slots + ms ≤ R.slots)
    (kk : ∀ (w1 : va_W) (H1 : Heap) (locs1 : List Loc), post w1 → va_P g.1 classes (wr ++ w1) H1 → va_D A (wr ++ w1) → va_S A s.heap H1 locs1 → W p l e R s m args below meth c H1 locs1 (cells + mc) (slots + ms) Q (F0 m (pc + 3) ls rest)) : W p l e R s m args below meth c H locs cells slots Q (F0 m pc ls st) := by
  subst hst
  have hPc := pSub hP isC hC
  have hDc := hD.sub isC hnC hC
  have hFc := va_free hD hS hA isC hC
  refine va_callv (va_runS (As := As) (rest := rest) ⟨X.1, X.2.1, X.2.2.1, X.2.2.2.1, X.2.2.2.2.1⟩ (hM H.size) ⟨cb_y X.2.2.2.2.1 ok hl hR, X.2.2.2.2.1 _ oks⟩ ⟨pre_blind, pre_at hK hZ hS hPc hDc hFc⟩ rfl hAs hls rfl (lv_room hro) hdg hf) hS (fun q _ h => hFc q h) hFc (fun u t H1 locs1 ht hvm hw hB hz1 hk1 hS1 => ?_)
  obtain ⟨hP1, hK1, hD1⟩ := hB
  rw [ht] at hP1
  obtain ⟨hP2, hD2⟩ := va_join hP hD isC isR hC hRs hnR (dis_of hdis) hk1 hFc hP1 hD1
  exact kk u H1 locs1 hw hP2 hD2 hS1
theorem kIv {post : va_W → Prop} (X : En p s m args meth c cc N rt own nm) (hM : MV l g y bb n fr lo mc ms wc (.ref b :: As) post) (ok : okM y bb n none k) (oki : y.name = "<init>" ∧ Cond.instanceMethod y ∈ tb) (hl : Cond.methodLink own index y ∈ tb) (hAs : As.length = k)
    (hK : va_K g.1 classes (tyG g) s) (hP : va_P g.1 classes ws H) (hD : va_D A ws) (hS : va_S A s.heap H locs) (hA : ∀ q, s.heap.size ≤ q → A q) (hZ : stS g A s s.heap) (hls : ls.size = N)
    (isC isR : List Nat) (hC : isC.map (fun i => ws[i]?) = wc.map some) (hRs : isR.map (fun i => ws[i]?) = wr.map some) (hnC : va_nd isC = true) (hnR : va_nd isR = true) (hdis : isR.all (fun i => !isC.contains i) = true)
    (hst : st = As.reverse ++ .ref b :: rest) (hro : (rest.map fun v => v.category).sum ≤ 8) (hR : fr + 1 ≤ R.frames ∧ 8 + (n + 11) + lo ≤ R.locals) (hdg : decode cc pc = .ok (.invokespecial index, 3)) (hf : cells + mc ≤ R.cells ∧ slots + ms ≤ R.slots)
    (kk : ∀ (w1 : va_W) (H1 : Heap) (locs1 : List Loc), post w1 → va_P g.1 classes (wr ++ w1) H1 → va_D A (wr ++ w1) → va_S A s.heap H1 locs1 → W p l e R s m args below meth c H1 locs1 (cells + mc) (slots + ms) Q (F0 m (pc + 3) ls rest)) : W p l e R s m args below meth c H locs cells slots Q (F0 m pc ls st) := by
  subst hst
  have hPc := pSub hP isC hC
  have hDc := hD.sub isC hnC hC
  have hFc := va_free hD hS hA isC hC
  refine va_callv (va_runI (As := As) (rest := rest) ⟨X.1, X.2.1, X.2.2.1, X.2.2.2.1, X.2.2.2.2.1⟩ (hM H.size) ⟨cb_y X.2.2.2.2.1 ok hl hR, oki.1, X.2.2.2.2.1 _ oki.2⟩ ⟨pre_blind, pre_at hK hZ hS hPc hDc hFc⟩ rfl hAs hls rfl (lv_room hro) hdg hf) hS (fun q _ h => hFc q h) hFc (fun u t H1 locs1 ht hvm hw hB hz1 hk1 hS1 => ?_)
  obtain ⟨hP1, hK1, hD1⟩ := hB
  rw [ht] at hP1
  obtain ⟨hP2, hD2⟩ := va_join hP hD isC isR hC hRs hnR (dis_of hdis) hk1 hFc hP1 hD1
  exact kk u H1 locs1 hw hP2 hD2 hS1
end CALLS
theorem i32lt {a b : Int32} : a < b ↔ a.toInt < b.toInt := Int32.lt_iff_toInt_lt
theorem i32le {a b : Int32} : a ≤ b ↔ a.toInt ≤ b.toInt := Int32.le_iff_toInt_le
theorem i32eq {a b : Int32} : a = b ↔ a.toInt = b.toInt := Int32.toInt_inj.symm
def jshl (x : Int64) (y : Int32) : Int64 := x <<< (y.toInt64 &&& 63)
def jshr (x : Int64) (y : Int32) : Int64 := x >>> (y.toInt64 &&& 63)
def jushr (x : Int64) (y : Int32) : Int64 := (x.toUInt64 >>> (y.toInt64.toUInt64 &&& Int64.toUInt64 63)).toInt64
section TOPS
variable {p : Program} {l : Launch} {e : Env} {R : Room} {s : State} {m : MethodId} {args : Array Value} {below : List Frame} {meth : Method} {c : Code} {H : Heap} {locs : List Loc} {cells slots : Nat} {Q : State → Prop} {pc : Nat} {ls : Array Slot} {rest : List Value}
theorem lv_topk {x v : Int32} (h : x = v) (k : W p l e R s m args below meth c H locs cells slots Q (F0 m pc ls (.int v :: rest))) : W p l e R s m args below meth c H locs cells slots Q (F0 m pc ls (.int x :: rest)) := h ▸ k
theorem lv_topkl {x v : Int64} (h : x = v) (k : W p l e R s m args below meth c H locs cells slots Q (F0 m pc ls (.long v :: rest))) : W p l e R s m args below meth c H locs cells slots Q (F0 m pc ls (.long x :: rest)) := h ▸ k
end TOPS
theorem arrX {g : GG} {s : State} {cA : ClassId} {ty : FieldType} (k : Nat) {c0 : ClassId} (hg : (tyG g)[k]? = some (c0, ty)) (hK : va_K g.1 classes (tyG g ++ [(cA, ty)]) s) (hty : ∀ C, ty ≠ .object C) : cA = c0 := by
  have h1 := (hK.2 k (c0, ty) (by rw [List.getElem?_append_left (by have := (List.getElem?_eq_some_iff.mp hg).1; exact this)]; exact hg)).2
  have h2 := (hK.2 3 (cA, ty) (by simp)).2
  cases ty with
  | object C => exact absurd rfl (hty C)
  | _ => exact Option.some.inj (h2.symm.trans h1)
theorem arrI {g : GG} {s : State} {cA : ClassId} (hK : va_K g.1 classes (tyG g ++ [(cA, .int)]) s) : cA = cI g := arrX 0 rfl hK (fun _ h => by cases h)
theorem arrJ {g : GG} {s : State} {cA : ClassId} (hK : va_K g.1 classes (tyG g ++ [(cA, .long)]) s) : cA = cJ g := arrX 1 rfl hK (fun _ h => by cases h)
theorem arrZ {g : GG} {s : State} {cA : ClassId} (hK : va_K g.1 classes (tyG g ++ [(cA, .boolean)]) s) : cA = cZ g := arrX 2 rfl hK (fun _ h => by cases h)
theorem i32test (x : Int32) (h1 : ¬ x < 0) (h2 : x ≤ 40) (h3 : ¬ x = -9) : ¬ (41 : Int32) ≤ x := by
  simp only [i32lt, i32le, i32eq, Int32.reduceToInt] at h1 h2 h3 ⊢
  omega
theorem loopK (N : Nat) (P : Nat → Heap → List Loc → Array Slot → Prop) {Wg : Heap → List Loc → Array Slot → Prop} (step : ∀ k, k < N → (∀ H locs ls, P (k + 1) H locs ls → Wg H locs ls) → ∀ H locs ls, P k H locs ls → Wg H locs ls) (fin : ∀ H locs ls, P N H locs ls → Wg H locs ls) : ∀ H locs ls, P 0 H locs ls → Wg H locs ls := by
  have key : ∀ n k, k + n = N → ∀ H locs ls, P k H locs ls → Wg H locs ls := by
    intro n
    induction n with
    | zero =>
      intro k hk
      obtain rfl : k = N := by omega
      exact fin
    | succ n ih =>
      intro k hk
      exact step k (by omega) (ih (k + 1) (by omega))
  exact key N 0 (Nat.zero_add N)
theorem cell_cg {D : va_G} {cl : List vw_C} {ws : va_W} {H : Heap} (h : va_P D cl ws H) (i : Nat) {a n : Nat} {cA : ClassId} {f f' : Nat → Int32} (hi : ws[i]? = some (a, .inl (cA, n, .inl f))) (hf : ∀ j, j < n → f j = f' j) : va_P D cl (ws.set i (a, .inl (cA, n, .inl f'))) H := by
  have hl := (List.getElem?_eq_some_iff.mp hi).1
  intro k q hk
  by_cases hki : k = i
  · subst hki
    rw [List.getElem?_set_self hl] at hk
    cases hk
    have h0 : H[a]? = some (vp_cell cA (n, .inl f)) := h k _ hi
    show H[a]? = some (vp_cell cA (n, .inl f'))
    rw [h0, vp_cell_i, vp_cell_i]
    congr 1
    unfold arrV
    congr 1
    apply Array.ext
    · simp
    · intro j h1 h2
      simp at h1
      simp [hf j h1]
  · rw [List.getElem?_set_ne (Ne.symm hki)] at hk
    exact h k q hk
def fillf (f : Nat → Int32) (lo : Nat) (v : Int32) (k : Nat) : Nat → Int32 := fun j => if lo ≤ j ∧ j < k then v else f j
theorem fill0 (f : Nat → Int32) (lo : Nat) (v : Int32) : fillf f lo v lo = f := by
  funext j
  unfold fillf
  rw [if_neg (by omega)]
theorem fillS (f : Nat → Int32) (lo : Nat) (v : Int32) (k : Nat) (h : lo ≤ k) : upd (fillf f lo v k) k v = fillf f lo v (k + 1) := by
  funext j
  unfold upd fillf
  by_cases hj : j = k
  · rw [if_pos hj, if_pos (by omega)]
  · rw [if_neg hj]
    by_cases h1 : lo ≤ j ∧ j < k
    · rw [if_pos h1, if_pos (by omega)]
    · rw [if_neg h1, if_neg (by omega)]
