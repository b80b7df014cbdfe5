def R_law : String := "CityRoadLaw"
def laA (s : State) : Nat → Prop := fun q => s.heap.size ≤ q
section LAWBASE
variable {p : Program} {l : Launch} {e : Env} {R : Room} {s : State} {m : MethodId} {args : Array Value} {below : List Frame} {meth : Method} {c : Code} {H : Heap} {locs : List Loc} {cells slots pc : Nat} {Q : State → Prop} {A : Nat → Prop} {g : GG} {cc : ByteArray} {N : Nat} {rt : Option FieldType} {own nm : String} {ls : Array Slot} {st rest : List Value} {y : MethodName} {bb : ByteArray} {n fr lo k index : Nat} {ret : Option FieldType} {As : List Value} {oC oM oC' oM' : OO} {adC adM : Nat → Nat}
set_option maxRecDepth 100000 in
set_option maxHeartbeats 4000000 in
theorem kCi {r : Int} (X : En p s m args meth c cc N rt own nm) (hM : CI l g y bb n ret fr lo (wC g adC oC) (.ref (adC 0) :: As) r (wC g adC oC')) (hcls : y.cls = "CityRoad") (ok : okM y bb n ret k) (okv : okV y) (hl : Cond.methodLink own index y ∈ tb) (hAs : As.length = k)
    (hK : va_K g.1 classes (tyG g) s) (hP : va_P g.1 classes (wC g adC oC ++ wM g adM oM) H) (hD : va_D A (wC g adC oC ++ wM g adM oM)) (hS : va_S A s.heap H locs) (hA : ∀ q, s.heap.size ≤ q → A q) (hZ : stS g A s s.heap) (hls : ls.size = N)
    (hst : st = As.reverse ++ .ref (adC 0) :: rest) (hro : (rest.map fun v => v.category).sum ≤ 8) (hR : fr + 1 ≤ R.frames ∧ 8 + (n + 11) + lo ≤ R.locals) (hdg : decode cc pc = .ok (.invokevirtual index, 3)) (hf : cells + 0 ≤ R.cells ∧ slots + 0 ≤ R.slots)
    (kk : ∀ (H1 : Heap) (locs1 : List Loc), va_P g.1 classes (wM g adM oM ++ wC g adC oC') H1 → va_D A (wM g adM oM ++ wC g adC oC') → va_S A s.heap H1 locs1 → W p l e R s m args below meth c H1 locs1 cells slots Q (F0 m (pc + 3) ls (iv r :: rest))) : W p l e R s m args below meth c H locs cells slots Q (F0 m pc ls st) := by
  refine kVi (wr := wM g adM oM) X hM ok okv hl hAs hK hP hD hS hA hZ hls [0, 1, 2, 3, 4, 5, 6, 7, 8, 9, 10, 11, 12, 13, 14, 15, 16, 17, 18, 19, 20, 21, 22, 23, 24, 25, 26, 27, 28, 29, 30, 31, 32, 33, 34, 35, 36, 37, 38, 39, 40, 41, 42, 43, 44, 45, 46, 47, 48, 49, 50, 51, 52, 53, 54, 55, 56, 57, 58, 59, 60, 61, 62, 63, 64, 65, 66, 67, 68, 69, 70, 71, 72, 73, 74, 75, 76, 77] [78, 79, 80, 81, 82, 83, 84, 85, 86, 87, 88, 89, 90, 91, 92, 93, 94, 95, 96, 97, 98, 99, 100, 101, 102, 103, 104, 105, 106, 107, 108, 109, 110, 111, 112, 113, 114, 115, 116, 117, 118, 119, 120, 121, 122, 123, 124, 125, 126, 127, 128, 129, 130, 131, 132, 133, 134, 135, 136, 137, 138, 139, 140] rfl rfl (by decide +kernel) (by decide +kernel) (by decide +kernel) 0 11 (T := TX11) (NC := 18) rfl (by rw [hcls]; rfl) hst hro hR hdg hf (fun r1 w1 H1 locs1 hp hP1 hD1 hS1 => ?_)
  obtain ⟨rfl, rfl⟩ := hp
  exact kk H1 locs1 hP1 hD1 hS1
set_option maxRecDepth 100000 in
set_option maxHeartbeats 4000000 in
theorem kCl {r : Int64} (X : En p s m args meth c cc N rt own nm) (hM : CL l g y bb n ret fr lo (wC g adC oC) (.ref (adC 0) :: As) r (wC g adC oC')) (hcls : y.cls = "CityRoad") (ok : okM y bb n ret k) (okv : okV y) (hl : Cond.methodLink own index y ∈ tb) (hAs : As.length = k)
    (hK : va_K g.1 classes (tyG g) s) (hP : va_P g.1 classes (wC g adC oC ++ wM g adM oM) H) (hD : va_D A (wC g adC oC ++ wM g adM oM)) (hS : va_S A s.heap H locs) (hA : ∀ q, s.heap.size ≤ q → A q) (hZ : stS g A s s.heap) (hls : ls.size = N)
    (hst : st = As.reverse ++ .ref (adC 0) :: rest) (hro : (rest.map fun v => v.category).sum ≤ 8) (hR : fr + 1 ≤ R.frames ∧ 8 + (n + 11) + lo ≤ R.locals) (hdg : decode cc pc = .ok (.invokevirtual index, 3)) (hf : cells + 0 ≤ R.cells ∧ slots + 0 ≤ R.slots)
    (kk : ∀ (H1 : Heap) (locs1 : List Loc), va_P g.1 classes (wM g adM oM ++ wC g adC oC') H1 → va_D A (wM g adM oM ++ wC g adC oC') → va_S A s.heap H1 locs1 → W p l e R s m args below meth c H1 locs1 cells slots Q (F0 m (pc + 3) ls (.long r :: rest))) : W p l e R s m args below meth c H locs cells slots Q (F0 m pc ls st) := by
  refine kVl (wr := wM g adM oM) X hM ok okv hl hAs hK hP hD hS hA hZ hls [0, 1, 2, 3, 4, 5, 6, 7, 8, 9, 10, 11, 12, 13, 14, 15, 16, 17, 18, 19, 20, 21, 22, 23, 24, 25, 26, 27, 28, 29, 30, 31, 32, 33, 34, 35, 36, 37, 38, 39, 40, 41, 42, 43, 44, 45, 46, 47, 48, 49, 50, 51, 52, 53, 54, 55, 56, 57, 58, 59, 60, 61, 62, 63, 64, 65, 66, 67, 68, 69, 70, 71, 72, 73, 74, 75, 76, 77] [78, 79, 80, 81, 82, 83, 84, 85, 86, 87, 88, 89, 90, 91, 92, 93, 94, 95, 96, 97, 98, 99, 100, 101, 102, 103, 104, 105, 106, 107, 108, 109, 110, 111, 112, 113, 114, 115, 116, 117, 118, 119, 120, 121, 122, 123, 124, 125, 126, 127, 128, 129, 130, 131, 132, 133, 134, 135, 136, 137, 138, 139, 140] rfl rfl (by decide +kernel) (by decide +kernel) (by decide +kernel) 0 11 (T := TX11) (NC := 18) rfl (by rw [hcls]; rfl) hst hro hR hdg hf (fun r1 w1 H1 locs1 hp hP1 hD1 hS1 => ?_)
  obtain ⟨rfl, rfl⟩ := hp
  exact kk H1 locs1 hP1 hD1 hS1
set_option maxRecDepth 100000 in
set_option maxHeartbeats 4000000 in
theorem kMi {r : Int} (X : En p s m args meth c cc N rt own nm) (hM : CI l g y bb n ret fr lo (wM g adM oM) (.ref (adM 0) :: As) r (wM g adM oM')) (hcls : y.cls = "CityRoadModel") (ok : okM y bb n ret k) (okv : okV y) (hl : Cond.methodLink own index y ∈ tb) (hAs : As.length = k)
    (hK : va_K g.1 classes (tyG g) s) (hP : va_P g.1 classes (wM g adM oM ++ wC g adC oC) H) (hD : va_D A (wM g adM oM ++ wC g adC oC)) (hS : va_S A s.heap H locs) (hA : ∀ q, s.heap.size ≤ q → A q) (hZ : stS g A s s.heap) (hls : ls.size = N)
    (hst : st = As.reverse ++ .ref (adM 0) :: rest) (hro : (rest.map fun v => v.category).sum ≤ 8) (hR : fr + 1 ≤ R.frames ∧ 8 + (n + 11) + lo ≤ R.locals) (hdg : decode cc pc = .ok (.invokevirtual index, 3)) (hf : cells + 0 ≤ R.cells ∧ slots + 0 ≤ R.slots)
    (kk : ∀ (H1 : Heap) (locs1 : List Loc), va_P g.1 classes (wC g adC oC ++ wM g adM oM') H1 → va_D A (wC g adC oC ++ wM g adM oM') → va_S A s.heap H1 locs1 → W p l e R s m args below meth c H1 locs1 cells slots Q (F0 m (pc + 3) ls (iv r :: rest))) : W p l e R s m args below meth c H locs cells slots Q (F0 m pc ls st) := by
  refine kVi (wr := wC g adC oC) X hM ok okv hl hAs hK hP hD hS hA hZ hls [0, 1, 2, 3, 4, 5, 6, 7, 8, 9, 10, 11, 12, 13, 14, 15, 16, 17, 18, 19, 20, 21, 22, 23, 24, 25, 26, 27, 28, 29, 30, 31, 32, 33, 34, 35, 36, 37, 38, 39, 40, 41, 42, 43, 44, 45, 46, 47, 48, 49, 50, 51, 52, 53, 54, 55, 56, 57, 58, 59, 60, 61, 62] [63, 64, 65, 66, 67, 68, 69, 70, 71, 72, 73, 74, 75, 76, 77, 78, 79, 80, 81, 82, 83, 84, 85, 86, 87, 88, 89, 90, 91, 92, 93, 94, 95, 96, 97, 98, 99, 100, 101, 102, 103, 104, 105, 106, 107, 108, 109, 110, 111, 112, 113, 114, 115, 116, 117, 118, 119, 120, 121, 122, 123, 124, 125, 126, 127, 128, 129, 130, 131, 132, 133, 134, 135, 136, 137, 138, 139, 140] rfl rfl (by decide +kernel) (by decide +kernel) (by decide +kernel) 0 12 (T := TX12) (NC := 77) rfl (by rw [hcls]; rfl) hst hro hR hdg hf (fun r1 w1 H1 locs1 hp hP1 hD1 hS1 => ?_)
  obtain ⟨rfl, rfl⟩ := hp
  exact kk H1 locs1 hP1 hD1 hS1
set_option maxRecDepth 100000 in
set_option maxHeartbeats 4000000 in
theorem kMl {r : Int64} (X : En p s m args meth c cc N rt own nm) (hM : CL l g y bb n ret fr lo (wM g adM oM) (.ref (adM 0) :: As) r (wM g adM oM')) (hcls : y.cls = "CityRoadModel") (ok : okM y bb n ret k) (okv : okV y) (hl : Cond.methodLink own index y ∈ tb) (hAs : As.length = k)
    (hK : va_K g.1 classes (tyG g) s) (hP : va_P g.1 classes (wM g adM oM ++ wC g adC oC) H) (hD : va_D A (wM g adM oM ++ wC g adC oC)) (hS : va_S A s.heap H locs) (hA : ∀ q, s.heap.size ≤ q → A q) (hZ : stS g A s s.heap) (hls : ls.size = N)
    (hst : st = As.reverse ++ .ref (adM 0) :: rest) (hro : (rest.map fun v => v.category).sum ≤ 8) (hR : fr + 1 ≤ R.frames ∧ 8 + (n + 11) + lo ≤ R.locals) (hdg : decode cc pc = .ok (.invokevirtual index, 3)) (hf : cells + 0 ≤ R.cells ∧ slots + 0 ≤ R.slots)
    (kk : ∀ (H1 : Heap) (locs1 : List Loc), va_P g.1 classes (wC g adC oC ++ wM g adM oM') H1 → va_D A (wC g adC oC ++ wM g adM oM') → va_S A s.heap H1 locs1 → W p l e R s m args below meth c H1 locs1 cells slots Q (F0 m (pc + 3) ls (.long r :: rest))) : W p l e R s m args below meth c H locs cells slots Q (F0 m pc ls st) := by
  refine kVl (wr := wC g adC oC) X hM ok okv hl hAs hK hP hD hS hA hZ hls [0, 1, 2, 3, 4, 5, 6, 7, 8, 9, 10, 11, 12, 13, 14, 15, 16, 17, 18, 19, 20, 21, 22, 23, 24, 25, 26, 27, 28, 29, 30, 31, 32, 33, 34, 35, 36, 37, 38, 39, 40, 41, 42, 43, 44, 45, 46, 47, 48, 49, 50, 51, 52, 53, 54, 55, 56, 57, 58, 59, 60, 61, 62] [63, 64, 65, 66, 67, 68, 69, 70, 71, 72, 73, 74, 75, 76, 77, 78, 79, 80, 81, 82, 83, 84, 85, 86, 87, 88, 89, 90, 91, 92, 93, 94, 95, 96, 97, 98, 99, 100, 101, 102, 103, 104, 105, 106, 107, 108, 109, 110, 111, 112, 113, 114, 115, 116, 117, 118, 119, 120, 121, 122, 123, 124, 125, 126, 127, 128, 129, 130, 131, 132, 133, 134, 135, 136, 137, 138, 139, 140] rfl rfl (by decide +kernel) (by decide +kernel) (by decide +kernel) 0 12 (T := TX12) (NC := 77) rfl (by rw [hcls]; rfl) hst hro hR hdg hf (fun r1 w1 H1 locs1 hp hP1 hD1 hS1 => ?_)
  obtain ⟨rfl, rfl⟩ := hp
  exact kk H1 locs1 hP1 hD1 hS1
end LAWBASE
/-- what holds of the class between calls, of the reference -/
def INVC (o : OO) (b : Int) : Prop := BoxC o ∧ HTC o ∧ OC o ∧ LB o b
def INVM (o : OO) : Prop := BoxM o ∧ HT o
def scr_ (scr : Nat → Int32) (i : Int) (k : Int) : Int := (scr (Int32.ofInt (i + k)).toNatClampNeg).toInt
theorem scr_R (scr : Nat → Int32) (i k : Int) : inR (scr_ scr i k) := by
  have h1 := Int32.toInt_lt (scr (Int32.ofInt (i + k)).toNatClampNeg)
  have h2 := Int32.le_toInt (scr (Int32.ofInt (i + k)).toNatClampNeg)
  unfold scr_
  exact ⟨by omega, by omega⟩
theorem scr_i (scr : Nat → Int32) (i k : Int) : scr (Int32.ofInt (i + k)).toNatClampNeg = Int32.ofInt (scr_ scr i k) := (oi_ot _).symm
theorem vin {i k : Int} {L : Nat} (h0 : 0 ≤ i + k) (h1 : i + k < (L : Int)) (hL : L ≤ 3072) : vp_in (Int32.ofInt (i + k)) L := (oi_in ⟨h0, h1⟩ (by omega)).1
theorem INVC.fr {L : List (Nat × Nat)} {o o' : OO} {b : Int} (h : INVC o b) (b0 : 0 ≤ b) (hB : BoxC o') (hf : Fr L o o') (h1 : wr L 10 12 = false) (h2 : wr L 10 13 = false) (h3 : ∀ k, wr L 19 k = false) (h4 : ∀ k, wr L 17 k = false) (h5 : ∀ k, wr L 18 k = false) (h6 : ∀ k, wr L 11 k = false) (h7 : ∀ k, wr L 64 k = false) (h8 : ∀ k, wr L 61 k = false) : INVC o' (b + 740000) :=
  ⟨hB, h.2.1.fr hf h1 h2 h3, h.2.2.1.fr hf h1 h4 h5 h6, (LB.cg (fun j => hf.1 64 j (h7 j)) (fun j => hf.1 61 j (h8 j)) h.2.2.2).up (by omega)⟩
theorem INVC.up {o : OO} {b : Int} (h : INVC o b) : INVC o (b + 740000) := ⟨h.1, h.2.1, h.2.2.1, h.2.2.2.up (by omega)⟩
theorem INVM.fr {L : List (Nat × Nat)} {o o' : OO} (h : INVM o) (hB : BoxM o') (hf : Fr L o o') (h1 : wr L 0 17 = false) (h2 : wr L 0 23 = false) (h3 : ∀ k, wr L 18 k = false) : INVM o' := ⟨hB, h.2.fr hf h1 h2 h3⟩
