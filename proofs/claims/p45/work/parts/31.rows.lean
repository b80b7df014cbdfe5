section ROWS
variable {X : CC} {l : Launch} {g : GG} {cc : ByteArray} {n fr lo pc : Nat} {ret : Option FieldType} {own : String} {ws ws' : va_W} {lv lv' : List (Nat × Value)} {st rest : List Value}
theorem g_iconst (E : EnX X l g cc n ret own fr lo) {k : Int} (hdg : decode cc pc = .ok (.iconst k, 1)) (kk : Go X (pc + 1) ws lv (iv k :: st)) : Go X pc ws lv (st) := by
  obtain ⟨p, l', e, R, s, m, args, below, meth, c, Q, n', g', A⟩ := X
  obtain ⟨rfl, rfl, rfl, rfl, ⟨nm, X⟩, hK, hA, hZ⟩ := E
  intro H locs ls hP hD hS hl
  exact lv_iconst (v := Int32.ofInt k) X.1 X.2.1 hdg rfl (kk H locs ls hP hD hS hl)
theorem g_bipush (E : EnX X l g cc n ret own fr lo) {k : Int} (hdg : decode cc pc = .ok (.bipush k, 2)) (hv : (Int8.ofInt k).toInt32 = Int32.ofInt k) (kk : Go X (pc + 2) ws lv (iv k :: st)) : Go X pc ws lv (st) := by
  obtain ⟨p, l', e, R, s, m, args, below, meth, c, Q, n', g', A⟩ := X
  obtain ⟨rfl, rfl, rfl, rfl, ⟨nm, X⟩, hK, hA, hZ⟩ := E
  intro H locs ls hP hD hS hl
  exact lv_bipush X.1 X.2.1 hdg hv (kk H locs ls hP hD hS hl)
theorem g_sipush (E : EnX X l g cc n ret own fr lo) {k : Int} (hdg : decode cc pc = .ok (.sipush k, 3)) (hv : (Int16.ofInt k).toInt32 = Int32.ofInt k) (kk : Go X (pc + 3) ws lv (iv k :: st)) : Go X pc ws lv (st) := by
  obtain ⟨p, l', e, R, s, m, args, below, meth, c, Q, n', g', A⟩ := X
  obtain ⟨rfl, rfl, rfl, rfl, ⟨nm, X⟩, hK, hA, hZ⟩ := E
  intro H locs ls hP hD hS hl
  exact lv_sipush X.1 X.2.1 hdg hv (kk H locs ls hP hD hS hl)
theorem g_lconst (E : EnX X l g cc n ret own fr lo) {k : Fin 2} {v : Int64} (hdg : decode cc pc = .ok (.lconst k, 1)) (hv : Int64.ofNat (k : Nat) = v) (kk : Go X (pc + 1) ws lv (.long v :: st)) : Go X pc ws lv (st) := by
  obtain ⟨p, l', e, R, s, m, args, below, meth, c, Q, n', g', A⟩ := X
  obtain ⟨rfl, rfl, rfl, rfl, ⟨nm, X⟩, hK, hA, hZ⟩ := E
  intro H locs ls hP hD hS hl
  exact lv_lconst X.1 X.2.1 hdg hv (kk H locs ls hP hD hS hl)
theorem g_ldc (E : EnX X l g cc n ret own fr lo) {i : Nat} {v : Int32} {k : Int} (hdg : decode cc pc = .ok (.ldc i, 2)) (hq : Cond.constant own i v ∈ tb) (hv : v = Int32.ofInt k) (kk : Go X (pc + 2) ws lv (iv k :: st)) : Go X pc ws lv (st) := by
  obtain ⟨p, l', e, R, s, m, args, below, meth, c, Q, n', g', A⟩ := X
  obtain ⟨rfl, rfl, rfl, rfl, ⟨nm, X⟩, hK, hA, hZ⟩ := E
  intro H locs ls hP hD hS hl
  subst hv
  exact lv_ldc X.1 X.2.1 X.2.2.2.1 (X.2.2.2.2.1 _ hq) hdg (kk H locs ls hP hD hS hl)
theorem g_ldcw (E : EnX X l g cc n ret own fr lo) {i : Nat} {v : Int32} {k : Int} (hdg : decode cc pc = .ok (.ldc_w i, 3)) (hq : Cond.constant own i v ∈ tb) (hv : v = Int32.ofInt k) (kk : Go X (pc + 3) ws lv (iv k :: st)) : Go X pc ws lv (st) := by
  obtain ⟨p, l', e, R, s, m, args, below, meth, c, Q, n', g', A⟩ := X
  obtain ⟨rfl, rfl, rfl, rfl, ⟨nm, X⟩, hK, hA, hZ⟩ := E
  intro H locs ls hP hD hS hl
  subst hv
  exact lv_ldcw X.1 X.2.1 X.2.2.2.1 (X.2.2.2.2.1 _ hq) hdg (kk H locs ls hP hD hS hl)
theorem g_ldc2 (E : EnX X l g cc n ret own fr lo) {i : Nat} {v : Int64} (hdg : decode cc pc = .ok (.ldc2_w i, 3)) (hq : Cond.constantLong own i v ∈ tb) (kk : Go X (pc + 3) ws lv (.long v :: st)) : Go X pc ws lv (st) := by
  obtain ⟨p, l', e, R, s, m, args, below, meth, c, Q, n', g', A⟩ := X
  obtain ⟨rfl, rfl, rfl, rfl, ⟨nm, X⟩, hK, hA, hZ⟩ := E
  intro H locs ls hP hD hS hl
  exact lv_ldc2 X.1 X.2.1 X.2.2.2.1 (X.2.2.2.2.1 _ hq) hdg (kk H locs ls hP hD hS hl)
theorem g_iload_n (E : EnX X l g cc n ret own fr lo) {k : Fin 4} {i : Nat} {x : Int} (hdg : decode cc pc = .ok (.iload_n k, 1)) (hi : (k : Nat) = i) (j : Nat) (hj : lv[j]? = some (i, iv x)) (kk : Go X (pc + 1) ws lv (iv x :: st)) : Go X pc ws lv (st) := by
  obtain ⟨p, l', e, R, s, m, args, below, meth, c, Q, n', g', A⟩ := X
  obtain ⟨rfl, rfl, rfl, rfl, ⟨nm, X⟩, hK, hA, hZ⟩ := E
  intro H locs ls hP hD hS hl
  exact lv_iload_n X.1 X.2.1 hdg hi (lv_at hl j hj) (kk H locs ls hP hD hS hl)
theorem g_iload (E : EnX X l g cc n ret own fr lo) {i : Nat} {x : Int} (hdg : decode cc pc = .ok (.iload i, 2)) (j : Nat) (hj : lv[j]? = some (i, iv x)) (kk : Go X (pc + 2) ws lv (iv x :: st)) : Go X pc ws lv (st) := by
  obtain ⟨p, l', e, R, s, m, args, below, meth, c, Q, n', g', A⟩ := X
  obtain ⟨rfl, rfl, rfl, rfl, ⟨nm, X⟩, hK, hA, hZ⟩ := E
  intro H locs ls hP hD hS hl
  exact lv_iload X.1 X.2.1 hdg (lv_at hl j hj) (kk H locs ls hP hD hS hl)
theorem g_lload_n (E : EnX X l g cc n ret own fr lo) {k : Fin 4} {i : Nat} {x : Int64} (hdg : decode cc pc = .ok (.lload_n k, 1)) (hi : (k : Nat) = i) (j : Nat) (hj : lv[j]? = some (i, .long x)) (kk : Go X (pc + 1) ws lv (.long x :: st)) : Go X pc ws lv (st) := by
  obtain ⟨p, l', e, R, s, m, args, below, meth, c, Q, n', g', A⟩ := X
  obtain ⟨rfl, rfl, rfl, rfl, ⟨nm, X⟩, hK, hA, hZ⟩ := E
  intro H locs ls hP hD hS hl
  exact lv_lload_n X.1 X.2.1 hdg hi (lv_at hl j hj) (kk H locs ls hP hD hS hl)
theorem g_lload (E : EnX X l g cc n ret own fr lo) {i : Nat} {x : Int64} (hdg : decode cc pc = .ok (.lload i, 2)) (j : Nat) (hj : lv[j]? = some (i, .long x)) (kk : Go X (pc + 2) ws lv (.long x :: st)) : Go X pc ws lv (st) := by
  obtain ⟨p, l', e, R, s, m, args, below, meth, c, Q, n', g', A⟩ := X
  obtain ⟨rfl, rfl, rfl, rfl, ⟨nm, X⟩, hK, hA, hZ⟩ := E
  intro H locs ls hP hD hS hl
  exact lv_lload X.1 X.2.1 hdg (lv_at hl j hj) (kk H locs ls hP hD hS hl)
theorem g_aload_n (E : EnX X l g cc n ret own fr lo) {k : Fin 4} {i : Nat} {x : Nat} (hdg : decode cc pc = .ok (.aload_n k, 1)) (hi : (k : Nat) = i) (j : Nat) (hj : lv[j]? = some (i, .ref x)) (kk : Go X (pc + 1) ws lv (.ref x :: st)) : Go X pc ws lv (st) := by
  obtain ⟨p, l', e, R, s, m, args, below, meth, c, Q, n', g', A⟩ := X
  obtain ⟨rfl, rfl, rfl, rfl, ⟨nm, X⟩, hK, hA, hZ⟩ := E
  intro H locs ls hP hD hS hl
  exact lv_aload_n X.1 X.2.1 hdg hi (lv_at hl j hj) (kk H locs ls hP hD hS hl)
theorem g_aload (E : EnX X l g cc n ret own fr lo) {i : Nat} {x : Nat} (hdg : decode cc pc = .ok (.aload i, 2)) (j : Nat) (hj : lv[j]? = some (i, .ref x)) (kk : Go X (pc + 2) ws lv (.ref x :: st)) : Go X pc ws lv (st) := by
  obtain ⟨p, l', e, R, s, m, args, below, meth, c, Q, n', g', A⟩ := X
  obtain ⟨rfl, rfl, rfl, rfl, ⟨nm, X⟩, hK, hA, hZ⟩ := E
  intro H locs ls hP hD hS hl
  exact lv_aload X.1 X.2.1 hdg (lv_at hl j hj) (kk H locs ls hP hD hS hl)
theorem g_istore_n (E : EnX X l g cc n ret own fr lo) {k : Fin 4} {i : Nat} {x : Int} (lv' : List (Nat × Value)) (hdg : decode cc pc = .ok (.istore_n k, 1)) (hi : (k : Nat) = i) (hn : i < n) (hv : (i, iv x) :: lv.filter (fun q => !(q.1 == i) && !(q.1 + 1 == i && q.2.category == 2)) = lv') (kk : Go X (pc + 1) ws lv' (st)) : Go X pc ws lv (iv x :: st) := by
  obtain ⟨p, l', e, R, s, m, args, below, meth, c, Q, n', g', A⟩ := X
  obtain ⟨rfl, rfl, rfl, rfl, ⟨nm, X⟩, hK, hA, hZ⟩ := E
  intro H locs ls hP hD hS hl
  exact lv_istore_n X.1 X.2.1 hdg hi hl hn hv (fun ls hl => kk H locs ls hP hD hS hl)
theorem g_istore (E : EnX X l g cc n ret own fr lo) {i : Nat} {x : Int} (lv' : List (Nat × Value)) (hdg : decode cc pc = .ok (.istore i, 2)) (hn : i < n) (hv : (i, iv x) :: lv.filter (fun q => !(q.1 == i) && !(q.1 + 1 == i && q.2.category == 2)) = lv') (kk : Go X (pc + 2) ws lv' (st)) : Go X pc ws lv (iv x :: st) := by
  obtain ⟨p, l', e, R, s, m, args, below, meth, c, Q, n', g', A⟩ := X
  obtain ⟨rfl, rfl, rfl, rfl, ⟨nm, X⟩, hK, hA, hZ⟩ := E
  intro H locs ls hP hD hS hl
  exact lv_istore X.1 X.2.1 hdg hl hn hv (fun ls hl => kk H locs ls hP hD hS hl)
theorem g_lstore_n (E : EnX X l g cc n ret own fr lo) {k : Fin 4} {i : Nat} {x : Int64} (lv' : List (Nat × Value)) (hdg : decode cc pc = .ok (.lstore_n k, 1)) (hi : (k : Nat) = i) (hn : i + 1 < n) (hv : (i, .long x) :: lv.filter (fun q => !(q.1 == i) && (!(q.1 == i + 1) && !(q.1 + 1 == i && q.2.category == 2))) = lv') (kk : Go X (pc + 1) ws lv' (st)) : Go X pc ws lv (.long x :: st) := by
  obtain ⟨p, l', e, R, s, m, args, below, meth, c, Q, n', g', A⟩ := X
  obtain ⟨rfl, rfl, rfl, rfl, ⟨nm, X⟩, hK, hA, hZ⟩ := E
  intro H locs ls hP hD hS hl
  exact lv_lstore_n X.1 X.2.1 hdg hi hl hn hv (fun ls hl => kk H locs ls hP hD hS hl)
theorem g_lstore (E : EnX X l g cc n ret own fr lo) {i : Nat} {x : Int64} (lv' : List (Nat × Value)) (hdg : decode cc pc = .ok (.lstore i, 2)) (hn : i + 1 < n) (hv : (i, .long x) :: lv.filter (fun q => !(q.1 == i) && (!(q.1 == i + 1) && !(q.1 + 1 == i && q.2.category == 2))) = lv') (kk : Go X (pc + 2) ws lv' (st)) : Go X pc ws lv (.long x :: st) := by
  obtain ⟨p, l', e, R, s, m, args, below, meth, c, Q, n', g', A⟩ := X
  obtain ⟨rfl, rfl, rfl, rfl, ⟨nm, X⟩, hK, hA, hZ⟩ := E
  intro H locs ls hP hD hS hl
  exact lv_lstore X.1 X.2.1 hdg hl hn hv (fun ls hl => kk H locs ls hP hD hS hl)
theorem g_astore_n (E : EnX X l g cc n ret own fr lo) {k : Fin 4} {i : Nat} {x : Nat} (lv' : List (Nat × Value)) (hdg : decode cc pc = .ok (.astore_n k, 1)) (hi : (k : Nat) = i) (hn : i < n) (hv : (i, .ref x) :: lv.filter (fun q => !(q.1 == i) && !(q.1 + 1 == i && q.2.category == 2)) = lv') (kk : Go X (pc + 1) ws lv' (st)) : Go X pc ws lv (.ref x :: st) := by
  obtain ⟨p, l', e, R, s, m, args, below, meth, c, Q, n', g', A⟩ := X
  obtain ⟨rfl, rfl, rfl, rfl, ⟨nm, X⟩, hK, hA, hZ⟩ := E
  intro H locs ls hP hD hS hl
  exact lv_astore_n X.1 X.2.1 hdg hi hl hn hv (fun ls hl => kk H locs ls hP hD hS hl)
theorem g_astore (E : EnX X l g cc n ret own fr lo) {i : Nat} {x : Nat} (lv' : List (Nat × Value)) (hdg : decode cc pc = .ok (.astore i, 2)) (hn : i < n) (hv : (i, .ref x) :: lv.filter (fun q => !(q.1 == i) && !(q.1 + 1 == i && q.2.category == 2)) = lv') (kk : Go X (pc + 2) ws lv' (st)) : Go X pc ws lv (.ref x :: st) := by
  obtain ⟨p, l', e, R, s, m, args, below, meth, c, Q, n', g', A⟩ := X
  obtain ⟨rfl, rfl, rfl, rfl, ⟨nm, X⟩, hK, hA, hZ⟩ := E
  intro H locs ls hP hD hS hl
  exact lv_astore X.1 X.2.1 hdg hl hn hv (fun ls hl => kk H locs ls hP hD hS hl)
theorem g_iinc (E : EnX X l g cc n ret own fr lo) {i : Nat} {x d : Int} (lv' : List (Nat × Value)) (hdg : decode cc pc = .ok (.iinc i d, 3)) (j : Nat) (hj : lv[j]? = some (i, iv x)) (hn : i < n) (hv : (i, iv (x + d)) :: lv.filter (fun q => !(q.1 == i) && !(q.1 + 1 == i && q.2.category == 2)) = lv') (kk : Go X (pc + 3) ws lv' (st)) : Go X pc ws lv (st) := by
  obtain ⟨p, l', e, R, s, m, args, below, meth, c, Q, n', g', A⟩ := X
  obtain ⟨rfl, rfl, rfl, rfl, ⟨nm, X⟩, hK, hA, hZ⟩ := E
  intro H locs ls hP hD hS hl
  exact lv_iinc (v := Int32.ofInt (x + d)) X.1 X.2.1 hdg hl hj (oi_add x d) hn hv (fun ls hl => kk H locs ls hP hD hS hl)
theorem g_iadd (E : EnX X l g cc n ret own fr lo) {a b : Int} (hdg : decode cc pc = .ok (.iadd, 1)) (kk : Go X (pc + 1) ws lv (iv (a + b) :: st)) : Go X pc ws lv (iv b :: iv a :: st) := by
  obtain ⟨p, l', e, R, s, m, args, below, meth, c, Q, n', g', A⟩ := X
  obtain ⟨rfl, rfl, rfl, rfl, ⟨nm, X⟩, hK, hA, hZ⟩ := E
  intro H locs ls hP hD hS hl
  exact lv_iadd X.1 X.2.1 hdg (lv_topk (oi_add a b) (kk H locs ls hP hD hS hl))
theorem g_isub (E : EnX X l g cc n ret own fr lo) {a b : Int} (hdg : decode cc pc = .ok (.isub, 1)) (kk : Go X (pc + 1) ws lv (iv (a - b) :: st)) : Go X pc ws lv (iv b :: iv a :: st) := by
  obtain ⟨p, l', e, R, s, m, args, below, meth, c, Q, n', g', A⟩ := X
  obtain ⟨rfl, rfl, rfl, rfl, ⟨nm, X⟩, hK, hA, hZ⟩ := E
  intro H locs ls hP hD hS hl
  exact lv_isub X.1 X.2.1 hdg (lv_topk (oi_sub a b) (kk H locs ls hP hD hS hl))
theorem g_imul (E : EnX X l g cc n ret own fr lo) {a b : Int} (hdg : decode cc pc = .ok (.imul, 1)) (kk : Go X (pc + 1) ws lv (iv (a * b) :: st)) : Go X pc ws lv (iv b :: iv a :: st) := by
  obtain ⟨p, l', e, R, s, m, args, below, meth, c, Q, n', g', A⟩ := X
  obtain ⟨rfl, rfl, rfl, rfl, ⟨nm, X⟩, hK, hA, hZ⟩ := E
  intro H locs ls hP hD hS hl
  exact lv_imul X.1 X.2.1 hdg (lv_topk (oi_mul a b) (kk H locs ls hP hD hS hl))
theorem g_iand (E : EnX X l g cc n ret own fr lo) {a b : Int} (hdg : decode cc pc = .ok (.iand, 1)) (kk : Go X (pc + 1) ws lv (iv (jand a b) :: st)) : Go X pc ws lv (iv b :: iv a :: st) := by
  obtain ⟨p, l', e, R, s, m, args, below, meth, c, Q, n', g', A⟩ := X
  obtain ⟨rfl, rfl, rfl, rfl, ⟨nm, X⟩, hK, hA, hZ⟩ := E
  intro H locs ls hP hD hS hl
  exact lv_iand X.1 X.2.1 hdg (lv_topk (oi_ot _).symm (kk H locs ls hP hD hS hl))
theorem g_ineg (E : EnX X l g cc n ret own fr lo) {a : Int} (hdg : decode cc pc = .ok (.ineg, 1)) (kk : Go X (pc + 1) ws lv (iv (-a) :: st)) : Go X pc ws lv (iv a :: st) := by
  obtain ⟨p, l', e, R, s, m, args, below, meth, c, Q, n', g', A⟩ := X
  obtain ⟨rfl, rfl, rfl, rfl, ⟨nm, X⟩, hK, hA, hZ⟩ := E
  intro H locs ls hP hD hS hl
  exact lv_ineg X.1 X.2.1 hdg (lv_topk (oi_neg a) (kk H locs ls hP hD hS hl))
theorem g_idiv (E : EnX X l g cc n ret own fr lo) {a b : Int} (hd : inR a ∧ inR b ∧ 0 < b) (hdg : decode cc pc = .ok (.idiv, 1)) (kk : Go X (pc + 1) ws lv (iv (jq a b) :: st)) : Go X pc ws lv (iv b :: iv a :: st) := by
  obtain ⟨p, l', e, R, s, m, args, below, meth, c, Q, n', g', A⟩ := X
  obtain ⟨rfl, rfl, rfl, rfl, ⟨nm, X⟩, hK, hA, hZ⟩ := E
  intro H locs ls hP hD hS hl
  exact lv_idiv X.1 X.2.1 hdg (by intro h0; have := (oi_eq hd.2.1 (show inR 0 from ⟨by decide, by decide⟩)).mp h0; omega) (lv_topk (oi_div hd) (kk H locs ls hP hD hS hl))
theorem g_irem (E : EnX X l g cc n ret own fr lo) {a b : Int} (hd : inR a ∧ inR b ∧ 0 < b) (hdg : decode cc pc = .ok (.irem, 1)) (kk : Go X (pc + 1) ws lv (iv (a - jq a b * b) :: st)) : Go X pc ws lv (iv b :: iv a :: st) := by
  obtain ⟨p, l', e, R, s, m, args, below, meth, c, Q, n', g', A⟩ := X
  obtain ⟨rfl, rfl, rfl, rfl, ⟨nm, X⟩, hK, hA, hZ⟩ := E
  intro H locs ls hP hD hS hl
  exact lv_irem X.1 X.2.1 hdg (by intro h0; have := (oi_eq hd.2.1 (show inR 0 from ⟨by decide, by decide⟩)).mp h0; omega) (lv_topk (by rw [oi_div hd, oi_mul, oi_sub]) (kk H locs ls hP hD hS hl))
theorem g_ladd (E : EnX X l g cc n ret own fr lo) {a b : Int64} (hdg : decode cc pc = .ok (.ladd, 1)) (kk : Go X (pc + 1) ws lv (.long (a + b) :: st)) : Go X pc ws lv (.long b :: .long a :: st) := by
  obtain ⟨p, l', e, R, s, m, args, below, meth, c, Q, n', g', A⟩ := X
  obtain ⟨rfl, rfl, rfl, rfl, ⟨nm, X⟩, hK, hA, hZ⟩ := E
  intro H locs ls hP hD hS hl
  exact lv_ladd X.1 X.2.1 hdg (kk H locs ls hP hD hS hl)
theorem g_lsub (E : EnX X l g cc n ret own fr lo) {a b : Int64} (hdg : decode cc pc = .ok (.lsub, 1)) (kk : Go X (pc + 1) ws lv (.long (a - b) :: st)) : Go X pc ws lv (.long b :: .long a :: st) := by
  obtain ⟨p, l', e, R, s, m, args, below, meth, c, Q, n', g', A⟩ := X
  obtain ⟨rfl, rfl, rfl, rfl, ⟨nm, X⟩, hK, hA, hZ⟩ := E
  intro H locs ls hP hD hS hl
  exact lv_lsub X.1 X.2.1 hdg (kk H locs ls hP hD hS hl)
theorem g_lmul (E : EnX X l g cc n ret own fr lo) {a b : Int64} (hdg : decode cc pc = .ok (.lmul, 1)) (kk : Go X (pc + 1) ws lv (.long (a * b) :: st)) : Go X pc ws lv (.long b :: .long a :: st) := by
  obtain ⟨p, l', e, R, s, m, args, below, meth, c, Q, n', g', A⟩ := X
  obtain ⟨rfl, rfl, rfl, rfl, ⟨nm, X⟩, hK, hA, hZ⟩ := E
  intro H locs ls hP hD hS hl
  exact lv_lmul X.1 X.2.1 hdg (kk H locs ls hP hD hS hl)
theorem g_land (E : EnX X l g cc n ret own fr lo) {a b : Int64} (hdg : decode cc pc = .ok (.land, 1)) (kk : Go X (pc + 1) ws lv (.long (a &&& b) :: st)) : Go X pc ws lv (.long b :: .long a :: st) := by
  obtain ⟨p, l', e, R, s, m, args, below, meth, c, Q, n', g', A⟩ := X
  obtain ⟨rfl, rfl, rfl, rfl, ⟨nm, X⟩, hK, hA, hZ⟩ := E
  intro H locs ls hP hD hS hl
  exact lv_land X.1 X.2.1 hdg (kk H locs ls hP hD hS hl)
theorem g_lor (E : EnX X l g cc n ret own fr lo) {a b : Int64} (hdg : decode cc pc = .ok (.lor, 1)) (kk : Go X (pc + 1) ws lv (.long (a ||| b) :: st)) : Go X pc ws lv (.long b :: .long a :: st) := by
  obtain ⟨p, l', e, R, s, m, args, below, meth, c, Q, n', g', A⟩ := X
  obtain ⟨rfl, rfl, rfl, rfl, ⟨nm, X⟩, hK, hA, hZ⟩ := E
  intro H locs ls hP hD hS hl
  exact lv_lor X.1 X.2.1 hdg (kk H locs ls hP hD hS hl)
theorem g_lxor (E : EnX X l g cc n ret own fr lo) {a b : Int64} (hdg : decode cc pc = .ok (.lxor, 1)) (kk : Go X (pc + 1) ws lv (.long (a ^^^ b) :: st)) : Go X pc ws lv (.long b :: .long a :: st) := by
  obtain ⟨p, l', e, R, s, m, args, below, meth, c, Q, n', g', A⟩ := X
  obtain ⟨rfl, rfl, rfl, rfl, ⟨nm, X⟩, hK, hA, hZ⟩ := E
  intro H locs ls hP hD hS hl
  exact lv_lxor X.1 X.2.1 hdg (kk H locs ls hP hD hS hl)
theorem g_ldiv (E : EnX X l g cc n ret own fr lo) {a b : Int64} (hne : ¬ b = 0) (hdg : decode cc pc = .ok (.ldiv, 1)) (kk : Go X (pc + 1) ws lv (.long (a / b) :: st)) : Go X pc ws lv (.long b :: .long a :: st) := by
  obtain ⟨p, l', e, R, s, m, args, below, meth, c, Q, n', g', A⟩ := X
  obtain ⟨rfl, rfl, rfl, rfl, ⟨nm, X⟩, hK, hA, hZ⟩ := E
  intro H locs ls hP hD hS hl
  exact lv_ldiv X.1 X.2.1 hdg hne (kk H locs ls hP hD hS hl)
theorem g_lshl (E : EnX X l g cc n ret own fr lo) {a : Int64} {b : Int} (hdg : decode cc pc = .ok (.lshl, 1)) (kk : Go X (pc + 1) ws lv (.long (jshl a (Int32.ofInt b)) :: st)) : Go X pc ws lv (iv b :: .long a :: st) := by
  obtain ⟨p, l', e, R, s, m, args, below, meth, c, Q, n', g', A⟩ := X
  obtain ⟨rfl, rfl, rfl, rfl, ⟨nm, X⟩, hK, hA, hZ⟩ := E
  intro H locs ls hP hD hS hl
  exact lv_lshl X.1 X.2.1 hdg rfl (kk H locs ls hP hD hS hl)
theorem g_lshr (E : EnX X l g cc n ret own fr lo) {a : Int64} {b : Int} (hdg : decode cc pc = .ok (.lshr, 1)) (kk : Go X (pc + 1) ws lv (.long (jshr a (Int32.ofInt b)) :: st)) : Go X pc ws lv (iv b :: .long a :: st) := by
  obtain ⟨p, l', e, R, s, m, args, below, meth, c, Q, n', g', A⟩ := X
  obtain ⟨rfl, rfl, rfl, rfl, ⟨nm, X⟩, hK, hA, hZ⟩ := E
  intro H locs ls hP hD hS hl
  exact lv_lshr X.1 X.2.1 hdg rfl (kk H locs ls hP hD hS hl)
theorem g_lushr (E : EnX X l g cc n ret own fr lo) {a : Int64} {b : Int} (hdg : decode cc pc = .ok (.lushr, 1)) (kk : Go X (pc + 1) ws lv (.long (jushr a (Int32.ofInt b)) :: st)) : Go X pc ws lv (iv b :: .long a :: st) := by
  obtain ⟨p, l', e, R, s, m, args, below, meth, c, Q, n', g', A⟩ := X
  obtain ⟨rfl, rfl, rfl, rfl, ⟨nm, X⟩, hK, hA, hZ⟩ := E
  intro H locs ls hP hD hS hl
  exact lv_lushr X.1 X.2.1 hdg rfl (kk H locs ls hP hD hS hl)
theorem g_i2l (E : EnX X l g cc n ret own fr lo) {a : Int} (hdg : decode cc pc = .ok (.i2l, 1)) (kk : Go X (pc + 1) ws lv (.long (jl a) :: st)) : Go X pc ws lv (iv a :: st) := by
  obtain ⟨p, l', e, R, s, m, args, below, meth, c, Q, n', g', A⟩ := X
  obtain ⟨rfl, rfl, rfl, rfl, ⟨nm, X⟩, hK, hA, hZ⟩ := E
  intro H locs ls hP hD hS hl
  exact lv_i2l X.1 X.2.1 hdg rfl (kk H locs ls hP hD hS hl)
theorem g_l2i (E : EnX X l g cc n ret own fr lo) {a : Int64} (hdg : decode cc pc = .ok (.l2i, 1)) (kk : Go X (pc + 1) ws lv (iv (ji a) :: st)) : Go X pc ws lv (.long a :: st) := by
  obtain ⟨p, l', e, R, s, m, args, below, meth, c, Q, n', g', A⟩ := X
  obtain ⟨rfl, rfl, rfl, rfl, ⟨nm, X⟩, hK, hA, hZ⟩ := E
  intro H locs ls hP hD hS hl
  exact lv_l2i X.1 X.2.1 hdg (oi_ot _).symm (kk H locs ls hP hD hS hl)
theorem g_i2b (E : EnX X l g cc n ret own fr lo) {a : Int} (hdg : decode cc pc = .ok (.i2b, 1)) (kk : Go X (pc + 1) ws lv (iv (jb a) :: st)) : Go X pc ws lv (iv a :: st) := by
  obtain ⟨p, l', e, R, s, m, args, below, meth, c, Q, n', g', A⟩ := X
  obtain ⟨rfl, rfl, rfl, rfl, ⟨nm, X⟩, hK, hA, hZ⟩ := E
  intro H locs ls hP hD hS hl
  exact lv_i2b X.1 X.2.1 hdg (oi_ot _).symm (kk H locs ls hP hD hS hl)
theorem g_dup (E : EnX X l g cc n ret own fr lo) {v : Value} (hdg : decode cc pc = .ok (.dup, 1)) (hc : v.category = 1) (kk : Go X (pc + 1) ws lv (v :: v :: st)) : Go X pc ws lv (v :: st) := by
  obtain ⟨p, l', e, R, s, m, args, below, meth, c, Q, n', g', A⟩ := X
  obtain ⟨rfl, rfl, rfl, rfl, ⟨nm, X⟩, hK, hA, hZ⟩ := E
  intro H locs ls hP hD hS hl
  exact lv_dup X.1 X.2.1 hdg hc (kk H locs ls hP hD hS hl)
theorem g_dup2 (E : EnX X l g cc n ret own fr lo) {v w : Value} (hdg : decode cc pc = .ok (.dup2, 1)) (hc : v.category = 1) (hw : w.category = 1) (kk : Go X (pc + 1) ws lv (v :: w :: v :: w :: st)) : Go X pc ws lv (v :: w :: st) := by
  obtain ⟨p, l', e, R, s, m, args, below, meth, c, Q, n', g', A⟩ := X
  obtain ⟨rfl, rfl, rfl, rfl, ⟨nm, X⟩, hK, hA, hZ⟩ := E
  intro H locs ls hP hD hS hl
  exact lv_dup2_11 X.1 X.2.1 hdg hc hw (kk H locs ls hP hD hS hl)
theorem g_nmi {x e : Int} (hx : x = e) (kk : Go X pc ws lv (iv x :: st)) : Go X pc ws lv (iv e :: st) := hx ▸ kk
theorem g_nml {x e : Int64} (hx : x = e) (kk : Go X pc ws lv (.long x :: st)) : Go X pc ws lv (.long e :: st) := hx ▸ kk
theorem g_dup2l (E : EnX X l g cc n ret own fr lo) {v : Value} (hdg : decode cc pc = .ok (.dup2, 1)) (hc : v.category = 2) (kk : Go X (pc + 1) ws lv (v :: v :: st)) : Go X pc ws lv (v :: st) := by
  obtain ⟨p, l', e, R, s, m, args, below, meth, c, Q, n', g', A⟩ := X
  obtain ⟨rfl, rfl, rfl, rfl, ⟨nm, X⟩, hK, hA, hZ⟩ := E
  intro H locs ls hP hD hS hl
  exact lv_dup2_2 X.1 X.2.1 hdg hc (kk H locs ls hP hD hS hl)
theorem g_pop2 (E : EnX X l g cc n ret own fr lo) {v : Value} (hdg : decode cc pc = .ok (.pop2, 1)) (hc : v.category = 2) (kk : Go X (pc + 1) ws lv (st)) : Go X pc ws lv (v :: st) := by
  obtain ⟨p, l', e, R, s, m, args, below, meth, c, Q, n', g', A⟩ := X
  obtain ⟨rfl, rfl, rfl, rfl, ⟨nm, X⟩, hK, hA, hZ⟩ := E
  intro H locs ls hP hD hS hl
  exact lv_pop2_2 X.1 X.2.1 hdg hc (kk H locs ls hP hD hS hl)
theorem g_pop (E : EnX X l g cc n ret own fr lo) {v : Value} (hdg : decode cc pc = .ok (.pop, 1)) (hc : v.category = 1) (kk : Go X (pc + 1) ws lv (st)) : Go X pc ws lv (v :: st) := by
  obtain ⟨p, l', e, R, s, m, args, below, meth, c, Q, n', g', A⟩ := X
  obtain ⟨rfl, rfl, rfl, rfl, ⟨nm, X⟩, hK, hA, hZ⟩ := E
  intro H locs ls hP hD hS hl
  exact lv_pop X.1 X.2.1 hdg hc (kk H locs ls hP hD hS hl)
theorem g_goto (E : EnX X l g cc n ret own fr lo) {off : Int} (tgt : Nat) (hdg : decode cc pc = .ok (.goto off, 3)) (ht : (pc : Int) + off = (tgt : Int)) (kk : Go X tgt ws lv (st)) : Go X pc ws lv (st) := by
  obtain ⟨p, l', e, R, s, m, args, below, meth, c, Q, n', g', A⟩ := X
  obtain ⟨rfl, rfl, rfl, rfl, ⟨nm, X⟩, hK, hA, hZ⟩ := E
  intro H locs ls hP hD hS hl
  exact lv_goto X.1 X.2.1 hdg ht (kk H locs ls hP hD hS hl)
theorem g_sub (E : EnX X l g cc n ret own fr lo) (ks : List Nat) (hv : lv_pick lv ks = lv') (kk : Go X pc ws lv' st) : Go X pc ws lv st := by
  obtain ⟨p, l', e, R, s, m, args, below, meth, c, Q, n', g', A⟩ := X
  obtain ⟨rfl, rfl, rfl, rfl, ⟨nm, X⟩, hK, hA, hZ⟩ := E
  intro H locs ls hP hD hS hl
  exact kk H locs ls hP hD hS (lv_sub hl ks hv)
section BR
variable {α : Type} {a b : Int} {t f : Option α} {v : α} {off : Int}
theorem g_icmp_eq (E : EnX X l g cc n ret own fr lo) (tgt : Nat) (hdg : decode cc pc = .ok (.if_icmp .eq off, 3)) (ht : (pc : Int) + off = (tgt : Int)) (h : qEq a b t f = some v) (kt : t = some v → Go X tgt ws lv st) (kf : f = some v → Go X (pc + 3) ws lv st) : Go X pc ws lv (iv b :: iv a :: st) := by
  obtain ⟨p, l', e, R, s, m, args, below, meth, c, Q, n', g', A⟩ := X
  obtain ⟨rfl, rfl, rfl, rfl, ⟨nm, X⟩, hK, hA, hZ⟩ := E
  intro H locs ls hP hD hS hl
  obtain ⟨h1, h2, h⟩ := qEq_of h
  exact lv_icmp_eq X.1 X.2.1 hdg ht (fun c0 => kt (pick_t h (by have c1 := (oi_eq h1 h2).mp c0; omega)) H locs ls hP hD hS hl) (fun c0 => kf (pick_f h (by have c1 : ¬ _ := fun q => c0 ((oi_eq h1 h2).mpr q); omega)) H locs ls hP hD hS hl)
theorem g_if_eq (E : EnX X l g cc n ret own fr lo) (tgt : Nat) (hdg : decode cc pc = .ok (.ifCond .eq off, 3)) (ht : (pc : Int) + off = (tgt : Int)) (h : qEq a 0 t f = some v) (kt : t = some v → Go X tgt ws lv st) (kf : f = some v → Go X (pc + 3) ws lv st) : Go X pc ws lv (iv a :: st) := by
  obtain ⟨p, l', e, R, s, m, args, below, meth, c, Q, n', g', A⟩ := X
  obtain ⟨rfl, rfl, rfl, rfl, ⟨nm, X⟩, hK, hA, hZ⟩ := E
  intro H locs ls hP hD hS hl
  obtain ⟨h1, h2, h⟩ := qEq_of h
  exact lv_if_eq X.1 X.2.1 hdg ht (fun c0 => kt (pick_t h (by have c1 := (oi_eq h1 h2).mp c0; omega)) H locs ls hP hD hS hl) (fun c0 => kf (pick_f h (by have c1 : ¬ _ := fun q => c0 ((oi_eq h1 h2).mpr q); omega)) H locs ls hP hD hS hl)
theorem g_icmp_ne (E : EnX X l g cc n ret own fr lo) (tgt : Nat) (hdg : decode cc pc = .ok (.if_icmp .ne off, 3)) (ht : (pc : Int) + off = (tgt : Int)) (h : qEq a b t f = some v) (kt : f = some v → Go X tgt ws lv st) (kf : t = some v → Go X (pc + 3) ws lv st) : Go X pc ws lv (iv b :: iv a :: st) := by
  obtain ⟨p, l', e, R, s, m, args, below, meth, c, Q, n', g', A⟩ := X
  obtain ⟨rfl, rfl, rfl, rfl, ⟨nm, X⟩, hK, hA, hZ⟩ := E
  intro H locs ls hP hD hS hl
  obtain ⟨h1, h2, h⟩ := qEq_of h
  exact lv_icmp_ne X.1 X.2.1 hdg ht (fun c0 => kt (pick_f h (by have c1 : ¬ _ := fun q => c0 ((oi_eq h1 h2).mpr q); omega)) H locs ls hP hD hS hl) (fun c0 => kf (pick_t h (by have c1 := (oi_eq h1 h2).mp c0; omega)) H locs ls hP hD hS hl)
theorem g_if_ne (E : EnX X l g cc n ret own fr lo) (tgt : Nat) (hdg : decode cc pc = .ok (.ifCond .ne off, 3)) (ht : (pc : Int) + off = (tgt : Int)) (h : qEq a 0 t f = some v) (kt : f = some v → Go X tgt ws lv st) (kf : t = some v → Go X (pc + 3) ws lv st) : Go X pc ws lv (iv a :: st) := by
  obtain ⟨p, l', e, R, s, m, args, below, meth, c, Q, n', g', A⟩ := X
  obtain ⟨rfl, rfl, rfl, rfl, ⟨nm, X⟩, hK, hA, hZ⟩ := E
  intro H locs ls hP hD hS hl
  obtain ⟨h1, h2, h⟩ := qEq_of h
  exact lv_if_ne X.1 X.2.1 hdg ht (fun c0 => kt (pick_f h (by have c1 : ¬ _ := fun q => c0 ((oi_eq h1 h2).mpr q); omega)) H locs ls hP hD hS hl) (fun c0 => kf (pick_t h (by have c1 := (oi_eq h1 h2).mp c0; omega)) H locs ls hP hD hS hl)
theorem g_icmp_lt (E : EnX X l g cc n ret own fr lo) (tgt : Nat) (hdg : decode cc pc = .ok (.if_icmp .lt off, 3)) (ht : (pc : Int) + off = (tgt : Int)) (h : qLt a b t f = some v) (kt : t = some v → Go X tgt ws lv st) (kf : f = some v → Go X (pc + 3) ws lv st) : Go X pc ws lv (iv b :: iv a :: st) := by
  obtain ⟨p, l', e, R, s, m, args, below, meth, c, Q, n', g', A⟩ := X
  obtain ⟨rfl, rfl, rfl, rfl, ⟨nm, X⟩, hK, hA, hZ⟩ := E
  intro H locs ls hP hD hS hl
  obtain ⟨h1, h2, h⟩ := qLt_of h
  exact lv_icmp_lt X.1 X.2.1 hdg ht (fun c0 => kt (pick_t h (by have c1 := (oi_lt h1 h2).mp c0; omega)) H locs ls hP hD hS hl) (fun c0 => kf (pick_f h (by have c1 : ¬ _ := fun q => c0 ((oi_lt h1 h2).mpr q); omega)) H locs ls hP hD hS hl)
theorem g_if_lt (E : EnX X l g cc n ret own fr lo) (tgt : Nat) (hdg : decode cc pc = .ok (.ifCond .lt off, 3)) (ht : (pc : Int) + off = (tgt : Int)) (h : qLt a 0 t f = some v) (kt : t = some v → Go X tgt ws lv st) (kf : f = some v → Go X (pc + 3) ws lv st) : Go X pc ws lv (iv a :: st) := by
  obtain ⟨p, l', e, R, s, m, args, below, meth, c, Q, n', g', A⟩ := X
  obtain ⟨rfl, rfl, rfl, rfl, ⟨nm, X⟩, hK, hA, hZ⟩ := E
  intro H locs ls hP hD hS hl
  obtain ⟨h1, h2, h⟩ := qLt_of h
  exact lv_if_lt X.1 X.2.1 hdg ht (fun c0 => kt (pick_t h (by have c1 := (oi_lt h1 h2).mp c0; omega)) H locs ls hP hD hS hl) (fun c0 => kf (pick_f h (by have c1 : ¬ _ := fun q => c0 ((oi_lt h1 h2).mpr q); omega)) H locs ls hP hD hS hl)
theorem g_icmp_ge (E : EnX X l g cc n ret own fr lo) (tgt : Nat) (hdg : decode cc pc = .ok (.if_icmp .ge off, 3)) (ht : (pc : Int) + off = (tgt : Int)) (h : qLt a b t f = some v) (kt : f = some v → Go X tgt ws lv st) (kf : t = some v → Go X (pc + 3) ws lv st) : Go X pc ws lv (iv b :: iv a :: st) := by
  obtain ⟨p, l', e, R, s, m, args, below, meth, c, Q, n', g', A⟩ := X
  obtain ⟨rfl, rfl, rfl, rfl, ⟨nm, X⟩, hK, hA, hZ⟩ := E
  intro H locs ls hP hD hS hl
  obtain ⟨h1, h2, h⟩ := qLt_of h
  exact lv_icmp_ge X.1 X.2.1 hdg ht (fun c0 => kt (pick_f h (by have c1 := (oi_le h2 h1).mp c0; omega)) H locs ls hP hD hS hl) (fun c0 => kf (pick_t h (by have c1 : ¬ _ := fun q => c0 ((oi_le h2 h1).mpr q); omega)) H locs ls hP hD hS hl)
theorem g_if_ge (E : EnX X l g cc n ret own fr lo) (tgt : Nat) (hdg : decode cc pc = .ok (.ifCond .ge off, 3)) (ht : (pc : Int) + off = (tgt : Int)) (h : qLt a 0 t f = some v) (kt : f = some v → Go X tgt ws lv st) (kf : t = some v → Go X (pc + 3) ws lv st) : Go X pc ws lv (iv a :: st) := by
  obtain ⟨p, l', e, R, s, m, args, below, meth, c, Q, n', g', A⟩ := X
  obtain ⟨rfl, rfl, rfl, rfl, ⟨nm, X⟩, hK, hA, hZ⟩ := E
  intro H locs ls hP hD hS hl
  obtain ⟨h1, h2, h⟩ := qLt_of h
  exact lv_if_ge X.1 X.2.1 hdg ht (fun c0 => kt (pick_f h (by have c1 := (oi_le h2 h1).mp c0; omega)) H locs ls hP hD hS hl) (fun c0 => kf (pick_t h (by have c1 : ¬ _ := fun q => c0 ((oi_le h2 h1).mpr q); omega)) H locs ls hP hD hS hl)
theorem g_icmp_gt (E : EnX X l g cc n ret own fr lo) (tgt : Nat) (hdg : decode cc pc = .ok (.if_icmp .gt off, 3)) (ht : (pc : Int) + off = (tgt : Int)) (h : qLt b a t f = some v) (kt : t = some v → Go X tgt ws lv st) (kf : f = some v → Go X (pc + 3) ws lv st) : Go X pc ws lv (iv b :: iv a :: st) := by
  obtain ⟨p, l', e, R, s, m, args, below, meth, c, Q, n', g', A⟩ := X
  obtain ⟨rfl, rfl, rfl, rfl, ⟨nm, X⟩, hK, hA, hZ⟩ := E
  intro H locs ls hP hD hS hl
  obtain ⟨h1, h2, h⟩ := qLt_of h
  exact lv_icmp_gt X.1 X.2.1 hdg ht (fun c0 => kt (pick_t h (by have c1 := (oi_lt h1 h2).mp c0; omega)) H locs ls hP hD hS hl) (fun c0 => kf (pick_f h (by have c1 : ¬ _ := fun q => c0 ((oi_lt h1 h2).mpr q); omega)) H locs ls hP hD hS hl)
theorem g_if_gt (E : EnX X l g cc n ret own fr lo) (tgt : Nat) (hdg : decode cc pc = .ok (.ifCond .gt off, 3)) (ht : (pc : Int) + off = (tgt : Int)) (h : qLt 0 a t f = some v) (kt : t = some v → Go X tgt ws lv st) (kf : f = some v → Go X (pc + 3) ws lv st) : Go X pc ws lv (iv a :: st) := by
  obtain ⟨p, l', e, R, s, m, args, below, meth, c, Q, n', g', A⟩ := X
  obtain ⟨rfl, rfl, rfl, rfl, ⟨nm, X⟩, hK, hA, hZ⟩ := E
  intro H locs ls hP hD hS hl
  obtain ⟨h1, h2, h⟩ := qLt_of h
  exact lv_if_gt X.1 X.2.1 hdg ht (fun c0 => kt (pick_t h (by have c1 := (oi_lt h1 h2).mp c0; omega)) H locs ls hP hD hS hl) (fun c0 => kf (pick_f h (by have c1 : ¬ _ := fun q => c0 ((oi_lt h1 h2).mpr q); omega)) H locs ls hP hD hS hl)
theorem g_icmp_le (E : EnX X l g cc n ret own fr lo) (tgt : Nat) (hdg : decode cc pc = .ok (.if_icmp .le off, 3)) (ht : (pc : Int) + off = (tgt : Int)) (h : qLt b a t f = some v) (kt : f = some v → Go X tgt ws lv st) (kf : t = some v → Go X (pc + 3) ws lv st) : Go X pc ws lv (iv b :: iv a :: st) := by
  obtain ⟨p, l', e, R, s, m, args, below, meth, c, Q, n', g', A⟩ := X
  obtain ⟨rfl, rfl, rfl, rfl, ⟨nm, X⟩, hK, hA, hZ⟩ := E
  intro H locs ls hP hD hS hl
  obtain ⟨h1, h2, h⟩ := qLt_of h
  exact lv_icmp_le X.1 X.2.1 hdg ht (fun c0 => kt (pick_f h (by have c1 := (oi_le h2 h1).mp c0; omega)) H locs ls hP hD hS hl) (fun c0 => kf (pick_t h (by have c1 : ¬ _ := fun q => c0 ((oi_le h2 h1).mpr q); omega)) H locs ls hP hD hS hl)
theorem g_if_le (E : EnX X l g cc n ret own fr lo) (tgt : Nat) (hdg : decode cc pc = .ok (.ifCond .le off, 3)) (ht : (pc : Int) + off = (tgt : Int)) (h : qLt 0 a t f = some v) (kt : f = some v → Go X tgt ws lv st) (kf : t = some v → Go X (pc + 3) ws lv st) : Go X pc ws lv (iv a :: st) := by
  obtain ⟨p, l', e, R, s, m, args, below, meth, c, Q, n', g', A⟩ := X
  obtain ⟨rfl, rfl, rfl, rfl, ⟨nm, X⟩, hK, hA, hZ⟩ := E
  intro H locs ls hP hD hS hl
  obtain ⟨h1, h2, h⟩ := qLt_of h
  exact lv_if_le X.1 X.2.1 hdg ht (fun c0 => kt (pick_f h (by have c1 := (oi_le h2 h1).mp c0; omega)) H locs ls hP hD hS hl) (fun c0 => kf (pick_t h (by have c1 : ¬ _ := fun q => c0 ((oi_le h2 h1).mpr q); omega)) H locs ls hP hD hS hl)
end BR
section LC
variable {α : Type} {a b : Int64} {t f : Option α} {v : α} {off : Int}
theorem lc_eq : lg_cmp a b = 0 ↔ a = b := by
  unfold lg_cmp
  split
  · rename_i h
    constructor
    · intro q; exact absurd q (by decide)
    · intro q; subst q; exact absurd h (Int64.lt_irrefl)
  · split
    · exact ⟨fun _ => ‹_›, fun _ => rfl⟩
    · exact ⟨fun q => absurd q (by decide), fun q => absurd q ‹_›⟩
theorem lc_gt : 0 < lg_cmp a b ↔ b < a := by
  unfold lg_cmp
  split
  · exact ⟨fun _ => ‹_›, fun _ => by decide⟩
  · split
    · exact ⟨fun q => absurd q (by decide), fun q => absurd q ‹_›⟩
    · exact ⟨fun q => absurd q (by decide), fun q => absurd q ‹_›⟩
theorem lc_lt : lg_cmp a b < 0 ↔ a < b := by
  unfold lg_cmp
  split
  · rename_i h
    exact ⟨fun q => absurd q (by decide), fun q => absurd (Int64.lt_trans q h) Int64.lt_irrefl⟩
  · rename_i h
    split
    · rename_i h2; subst h2; exact ⟨fun q => absurd q (by decide), fun q => absurd q Int64.lt_irrefl⟩
    · rename_i h2
      refine ⟨fun _ => ?_, fun _ => by decide⟩
      have h : ¬ b < a := h
      rw [Int64.lt_iff_toInt_lt] at h ⊢
      have h3 : ¬ a.toInt = b.toInt := fun q => h2 (Int64.toInt_inj.mp q)
      omega
theorem g_lcmp_eq (E : EnX X l g cc n ret own fr lo) (tgt : Nat) (hd0 : decode cc pc = .ok (.lcmp, 1)) (hdg : decode cc (pc + 1) = .ok (.ifCond .eq off, 3)) (ht : ((pc + 1 : Nat) : Int) + off = (tgt : Int)) (h : qJe a b t f = some v) (kt : t = some v → Go X tgt ws lv st) (kf : f = some v → Go X (pc + 1 + 3) ws lv st) : Go X pc ws lv (.long b :: .long a :: st) := by
  obtain ⟨p, l', e, R, s, m, args, below, meth, c, Q, n', g', A⟩ := X
  obtain ⟨rfl, rfl, rfl, rfl, ⟨nm, X⟩, hK, hA, hZ⟩ := E
  intro H locs ls hP hD hS hl
  have h := qJe_of h
  refine W.lcmp X.1 X.2.1 hd0 ?_
  exact lv_if_eq X.1 X.2.1 hdg ht (fun c0 => kt (pick_t h (lc_eq.mp c0)) H locs ls hP hD hS hl) (fun c0 => kf (pick_f h ((fun q => c0 (lc_eq.mpr q)))) H locs ls hP hD hS hl)
theorem g_lcmp_ne (E : EnX X l g cc n ret own fr lo) (tgt : Nat) (hd0 : decode cc pc = .ok (.lcmp, 1)) (hdg : decode cc (pc + 1) = .ok (.ifCond .ne off, 3)) (ht : ((pc + 1 : Nat) : Int) + off = (tgt : Int)) (h : qJe a b t f = some v) (kt : f = some v → Go X tgt ws lv st) (kf : t = some v → Go X (pc + 1 + 3) ws lv st) : Go X pc ws lv (.long b :: .long a :: st) := by
  obtain ⟨p, l', e, R, s, m, args, below, meth, c, Q, n', g', A⟩ := X
  obtain ⟨rfl, rfl, rfl, rfl, ⟨nm, X⟩, hK, hA, hZ⟩ := E
  intro H locs ls hP hD hS hl
  have h := qJe_of h
  refine W.lcmp X.1 X.2.1 hd0 ?_
  exact lv_if_ne X.1 X.2.1 hdg ht (fun c0 => kt (pick_f h ((fun q => c0 (lc_eq.mpr q)))) H locs ls hP hD hS hl) (fun c0 => kf (pick_t h (lc_eq.mp c0)) H locs ls hP hD hS hl)
theorem g_lcmp_lt (E : EnX X l g cc n ret own fr lo) (tgt : Nat) (hd0 : decode cc pc = .ok (.lcmp, 1)) (hdg : decode cc (pc + 1) = .ok (.ifCond .lt off, 3)) (ht : ((pc + 1 : Nat) : Int) + off = (tgt : Int)) (h : qJl a b t f = some v) (kt : t = some v → Go X tgt ws lv st) (kf : f = some v → Go X (pc + 1 + 3) ws lv st) : Go X pc ws lv (.long b :: .long a :: st) := by
  obtain ⟨p, l', e, R, s, m, args, below, meth, c, Q, n', g', A⟩ := X
  obtain ⟨rfl, rfl, rfl, rfl, ⟨nm, X⟩, hK, hA, hZ⟩ := E
  intro H locs ls hP hD hS hl
  have h := qJl_of h
  refine W.lcmp X.1 X.2.1 hd0 ?_
  exact lv_if_lt X.1 X.2.1 hdg ht (fun c0 => kt (pick_t h (lc_lt.mp c0)) H locs ls hP hD hS hl) (fun c0 => kf (pick_f h ((fun q => c0 (lc_lt.mpr q)))) H locs ls hP hD hS hl)
theorem g_lcmp_ge (E : EnX X l g cc n ret own fr lo) (tgt : Nat) (hd0 : decode cc pc = .ok (.lcmp, 1)) (hdg : decode cc (pc + 1) = .ok (.ifCond .ge off, 3)) (ht : ((pc + 1 : Nat) : Int) + off = (tgt : Int)) (h : qJl a b t f = some v) (kt : f = some v → Go X tgt ws lv st) (kf : t = some v → Go X (pc + 1 + 3) ws lv st) : Go X pc ws lv (.long b :: .long a :: st) := by
  obtain ⟨p, l', e, R, s, m, args, below, meth, c, Q, n', g', A⟩ := X
  obtain ⟨rfl, rfl, rfl, rfl, ⟨nm, X⟩, hK, hA, hZ⟩ := E
  intro H locs ls hP hD hS hl
  have h := qJl_of h
  refine W.lcmp X.1 X.2.1 hd0 ?_
  exact lv_if_ge X.1 X.2.1 hdg ht (fun c0 => kt (pick_f h (fun q => absurd (lc_lt.mpr q) (by first | exact Int32.not_lt.mpr c0))) H locs ls hP hD hS hl) (fun c0 => kf (pick_t h (lc_lt.mp (Int32.not_le.mp c0))) H locs ls hP hD hS hl)
theorem g_lcmp_gt (E : EnX X l g cc n ret own fr lo) (tgt : Nat) (hd0 : decode cc pc = .ok (.lcmp, 1)) (hdg : decode cc (pc + 1) = .ok (.ifCond .gt off, 3)) (ht : ((pc + 1 : Nat) : Int) + off = (tgt : Int)) (h : qJl b a t f = some v) (kt : t = some v → Go X tgt ws lv st) (kf : f = some v → Go X (pc + 1 + 3) ws lv st) : Go X pc ws lv (.long b :: .long a :: st) := by
  obtain ⟨p, l', e, R, s, m, args, below, meth, c, Q, n', g', A⟩ := X
  obtain ⟨rfl, rfl, rfl, rfl, ⟨nm, X⟩, hK, hA, hZ⟩ := E
  intro H locs ls hP hD hS hl
  have h := qJl_of h
  refine W.lcmp X.1 X.2.1 hd0 ?_
  exact lv_if_gt X.1 X.2.1 hdg ht (fun c0 => kt (pick_t h (lc_gt.mp c0)) H locs ls hP hD hS hl) (fun c0 => kf (pick_f h ((fun q => c0 (lc_gt.mpr q)))) H locs ls hP hD hS hl)
theorem g_lcmp_le (E : EnX X l g cc n ret own fr lo) (tgt : Nat) (hd0 : decode cc pc = .ok (.lcmp, 1)) (hdg : decode cc (pc + 1) = .ok (.ifCond .le off, 3)) (ht : ((pc + 1 : Nat) : Int) + off = (tgt : Int)) (h : qJl b a t f = some v) (kt : f = some v → Go X tgt ws lv st) (kf : t = some v → Go X (pc + 1 + 3) ws lv st) : Go X pc ws lv (.long b :: .long a :: st) := by
  obtain ⟨p, l', e, R, s, m, args, below, meth, c, Q, n', g', A⟩ := X
  obtain ⟨rfl, rfl, rfl, rfl, ⟨nm, X⟩, hK, hA, hZ⟩ := E
  intro H locs ls hP hD hS hl
  have h := qJl_of h
  refine W.lcmp X.1 X.2.1 hd0 ?_
  exact lv_if_le X.1 X.2.1 hdg ht (fun c0 => kt (pick_f h (fun q => absurd (lc_gt.mpr q) (by first | exact Int32.not_lt.mpr c0))) H locs ls hP hD hS hl) (fun c0 => kf (pick_t h (lc_gt.mp (Int32.not_le.mp c0))) H locs ls hP hD hS hl)
end LC
theorem g_get (E : EnX X l g cc n ret own fr lo) {ref C : String} {T : u_T} {N ci index : Nat} {a : Nat} (hin : ∀ w ∈ u_ws C T N, w ∈ tb) (q0 : Nat) {fs : List Value} (he : ws[q0]? = some (a, .inr (ci, fs))) (hc : classes[ci]? = some (C, T, N)) (k : Nat) (hk : k < N) (hlink : Cond.fieldLink own index ref (T k).2.1 (T k).2.2.1 ∈ tb) (href : (T k).1 = ref) {v : Value} (hv : fs[k]? = some v) (hdg : decode cc pc = .ok (.getfield index, 3)) (kk : Go X (pc + 3) ws lv (v :: st)) : Go X pc ws lv (.ref a :: st) := by
  obtain ⟨p, l', e, R, s, m, args, below, meth, c, Q, n', g', A⟩ := X
  obtain ⟨rfl, rfl, rfl, rfl, ⟨nm, X⟩, hK, hA, hZ⟩ := E
  intro H locs ls hP hD hS hl
  exact va_get X.1 X.2.1 X.2.2.2.2.1 hin X.2.2.2.1 hK hP q0 he hc k hk (X.2.2.2.2.1 _ hlink) (fun _ h9 => by rw [← href]; exact h9) hv hdg (kk H locs ls hP hD hS hl)
theorem g_puti (E : EnX X l g cc n ret own fr lo) {ref C : String} {T : u_T} {N ci index : Nat} {a : Nat} {x : Int} (hin : ∀ w ∈ u_ws C T N, w ∈ tb) (ty0 : Nat → FieldType) (hty : ∀ k, k < N → parseFieldDescriptor (T k).2.2.1 = some (ty0 k)) (hnm : ∀ a, a < N → ∀ b, b < N → a ≠ b → (T a).2.1 ≠ (T b).2.1) (q0 : Nat) {fs : List Value} (he : ws[q0]? = some (a, .inr (ci, fs))) (hc : classes[ci]? = some (C, T, N)) (k : Nat) (hk : k < N) (hlink : Cond.fieldLink own index ref (T k).2.1 (T k).2.2.1 ∈ tb) (href : (T k).1 = ref) (hfin : (T k).2.2.2 = false) (hd : parseFieldDescriptor (T k).2.2.1 = some .int) (hlen : k < fs.length) (hset : ws.set q0 (a, .inr (ci, fs.set k (iv x))) = ws') (hdg : decode cc pc = .ok (.putfield index, 3)) (kk : Go X (pc + 3) ws' lv st) : Go X pc ws lv (iv x :: .ref a :: st) := by
  obtain ⟨p, l', e, R, s, m, args, below, meth, c, Q, n', g', A⟩ := X
  obtain ⟨rfl, rfl, rfl, rfl, ⟨nm, X⟩, hK, hA, hZ⟩ := E
  intro H locs ls hP hD hS hl
  exact va_put X.1 X.2.1 X.2.2.2.2.1 hin ty0 hty hnm X.2.2.2.1 hK hP hD hS q0 he hc k hk (X.2.2.2.2.1 _ hlink) (fun _ h9 => by rw [← href]; exact h9) hfin hd rfl rfl hlen hdg (fun H locs hP hD hS => kk H locs ls (hset ▸ hP) (hset ▸ hD) hS hl)
theorem g_putl (E : EnX X l g cc n ret own fr lo) {ref C : String} {T : u_T} {N ci index : Nat} {a : Nat} {x : Int64} (hin : ∀ w ∈ u_ws C T N, w ∈ tb) (ty0 : Nat → FieldType) (hty : ∀ k, k < N → parseFieldDescriptor (T k).2.2.1 = some (ty0 k)) (hnm : ∀ a, a < N → ∀ b, b < N → a ≠ b → (T a).2.1 ≠ (T b).2.1) (q0 : Nat) {fs : List Value} (he : ws[q0]? = some (a, .inr (ci, fs))) (hc : classes[ci]? = some (C, T, N)) (k : Nat) (hk : k < N) (hlink : Cond.fieldLink own index ref (T k).2.1 (T k).2.2.1 ∈ tb) (href : (T k).1 = ref) (hfin : (T k).2.2.2 = false) (hd : parseFieldDescriptor (T k).2.2.1 = some .long) (hlen : k < fs.length) (hset : ws.set q0 (a, .inr (ci, fs.set k (.long x))) = ws') (hdg : decode cc pc = .ok (.putfield index, 3)) (kk : Go X (pc + 3) ws' lv st) : Go X pc ws lv (.long x :: .ref a :: st) := by
  obtain ⟨p, l', e, R, s, m, args, below, meth, c, Q, n', g', A⟩ := X
  obtain ⟨rfl, rfl, rfl, rfl, ⟨nm, X⟩, hK, hA, hZ⟩ := E
  intro H locs ls hP hD hS hl
  exact va_put X.1 X.2.1 X.2.2.2.2.1 hin ty0 hty hnm X.2.2.2.1 hK hP hD hS q0 he hc k hk (X.2.2.2.2.1 _ hlink) (fun _ h9 => by rw [← href]; exact h9) hfin hd rfl rfl hlen hdg (fun H locs hP hD hS => kk H locs ls (hset ▸ hP) (hset ▸ hD) hS hl)
section ARR
variable {α : Type} {v : α} {ef : Option α} {a N : Nat} {i : Int}
theorem g_iald (E : EnX X l g cc n ret own fr lo) (q0 : Nat) {f : Nat → Int} (he : ws[q0]? = some (a, .inl (cI g, N, .inl (fun j => Int32.ofInt (f j))))) (hN : N < 2 ^ 31) (h : 0 ≤ i ∧ i < (N : Int)) (hdg : decode cc pc = .ok (.iaload, 1)) (kk : Go X (pc + 1) ws lv (iv (f i.toNat) :: st)) : Go X pc ws lv (iv i :: .ref a :: st) := by
  obtain ⟨p, l', e, R, s, m, args, below, meth, c, Q, n', g', A⟩ := X
  obtain ⟨rfl, rfl, rfl, rfl, ⟨nm, X⟩, hK, hA, hZ⟩ := E
  intro H locs ls hP hD hS hl
  obtain ⟨h1, h2⟩ := oi_in h hN
  refine va_iald X.1 X.2.1 hK hP q0 0 he rfl h1 hdg ?_
  rw [h2]
  exact kk H locs ls hP hD hS hl
theorem g_zald (E : EnX X l g cc n ret own fr lo) (q0 : Nat) {f : Nat → Int} (he : ws[q0]? = some (a, .inl (cZ g, N, .inl (fun j => Int32.ofInt (f j))))) (hN : N < 2 ^ 31) (h : 0 ≤ i ∧ i < (N : Int)) (hdg : decode cc pc = .ok (.baload, 1)) (kk : Go X (pc + 1) ws lv (iv (f i.toNat) :: st)) : Go X pc ws lv (iv i :: .ref a :: st) := by
  obtain ⟨p, l', e, R, s, m, args, below, meth, c, Q, n', g', A⟩ := X
  obtain ⟨rfl, rfl, rfl, rfl, ⟨nm, X⟩, hK, hA, hZ⟩ := E
  intro H locs ls hP hD hS hl
  obtain ⟨h1, h2⟩ := oi_in h hN
  refine va_zald X.1 X.2.1 hK hP q0 2 he rfl h1 hdg ?_
  rw [h2]
  exact kk H locs ls hP hD hS hl
theorem g_lald (E : EnX X l g cc n ret own fr lo) (q0 : Nat) {f : Nat → Int64} (he : ws[q0]? = some (a, .inl (cJ g, N, .inr (.inl f)))) (hN : N < 2 ^ 31) (h : 0 ≤ i ∧ i < (N : Int)) (hdg : decode cc pc = .ok (.laload, 1)) (kk : Go X (pc + 1) ws lv (.long (f i.toNat) :: st)) : Go X pc ws lv (iv i :: .ref a :: st) := by
  obtain ⟨p, l', e, R, s, m, args, below, meth, c, Q, n', g', A⟩ := X
  obtain ⟨rfl, rfl, rfl, rfl, ⟨nm, X⟩, hK, hA, hZ⟩ := E
  intro H locs ls hP hD hS hl
  obtain ⟨h1, h2⟩ := oi_in h hN
  refine va_lald X.1 X.2.1 hK hP q0 1 he rfl h1 hdg ?_
  rw [h2]
  exact kk H locs ls hP hD hS hl
theorem g_iast (E : EnX X l g cc n ret own fr lo) (q0 : Nat) {f : Nat → Int} {x : Int} (he : ws[q0]? = some (a, .inl (cI g, N, .inl (fun j => Int32.ofInt (f j))))) (hN : N < 2 ^ 31) (h : 0 ≤ i ∧ i < (N : Int)) (hset : ws.set q0 (a, .inl (cI g, N, .inl (fun j => Int32.ofInt (if j = i.toNat then x else f j)))) = ws') (hdg : decode cc pc = .ok (.iastore, 1)) (kk : Go X (pc + 1) ws' lv st) : Go X pc ws lv (iv x :: iv i :: .ref a :: st) := by
  obtain ⟨p, l', e, R, s, m, args, below, meth, c, Q, n', g', A⟩ := X
  obtain ⟨rfl, rfl, rfl, rfl, ⟨nm, X⟩, hK, hA, hZ⟩ := E
  intro H locs ls hP hD hS hl
  obtain ⟨h1, h2⟩ := oi_in h hN
  refine va_iast X.1 X.2.1 hK hP hD hS q0 0 he rfl h1 hdg (fun H locs hP hD hS => ?_)
  rw [h2, updI] at hP hD
  exact kk H locs ls (hset ▸ hP) (hset ▸ hD) hS hl
theorem g_zast (E : EnX X l g cc n ret own fr lo) (q0 : Nat) {f : Nat → Int} {x : Int} (he : ws[q0]? = some (a, .inl (cZ g, N, .inl (fun j => Int32.ofInt (f j))))) (hN : N < 2 ^ 31) (h : 0 ≤ i ∧ i < (N : Int)) (hz : x = 0 ∨ x = 1) (hset : ws.set q0 (a, .inl (cZ g, N, .inl (fun j => Int32.ofInt (if j = i.toNat then x else f j)))) = ws') (hdg : decode cc pc = .ok (.bastore, 1)) (kk : Go X (pc + 1) ws' lv st) : Go X pc ws lv (iv x :: iv i :: .ref a :: st) := by
  obtain ⟨p, l', e, R, s, m, args, below, meth, c, Q, n', g', A⟩ := X
  obtain ⟨rfl, rfl, rfl, rfl, ⟨nm, X⟩, hK, hA, hZ⟩ := E
  intro H locs ls hP hD hS hl
  obtain ⟨h1, h2⟩ := oi_in h hN
  refine va_zast X.1 X.2.1 hK hP hD hS q0 2 he rfl h1 hdg (fun H locs hP hD hS => ?_)
  rw [narZ hz, h2, updI] at hP hD
  exact kk H locs ls (hset ▸ hP) (hset ▸ hD) hS hl
theorem g_last (E : EnX X l g cc n ret own fr lo) (q0 : Nat) {f : Nat → Int64} {x : Int64} (he : ws[q0]? = some (a, .inl (cJ g, N, .inr (.inl f)))) (hN : N < 2 ^ 31) (h : 0 ≤ i ∧ i < (N : Int)) (hset : ws.set q0 (a, .inl (cJ g, N, .inr (.inl (vp_updL f i.toNat x)))) = ws') (hdg : decode cc pc = .ok (.lastore, 1)) (kk : Go X (pc + 1) ws' lv st) : Go X pc ws lv (.long x :: iv i :: .ref a :: st) := by
  obtain ⟨p, l', e, R, s, m, args, below, meth, c, Q, n', g', A⟩ := X
  obtain ⟨rfl, rfl, rfl, rfl, ⟨nm, X⟩, hK, hA, hZ⟩ := E
  intro H locs ls hP hD hS hl
  obtain ⟨h1, h2⟩ := oi_in h hN
  refine va_last X.1 X.2.1 hK hP hD hS q0 1 he rfl h1 hdg (fun H locs hP hD hS => ?_)
  rw [h2] at hP hD
  exact kk H locs ls (hset ▸ hP) (hset ▸ hD) hS hl
theorem g_alen (E : EnX X l g cc n ret own fr lo) (q0 : Nat) {x : Nat → Int} (he : ws[q0]? = some (a, .inl (cI g, N, .inl (fun j => Int32.ofInt (x j))))) (hdg : decode cc pc = .ok (.arraylength, 1)) (kk : Go X (pc + 1) ws lv (iv (N : Int) :: st)) : Go X pc ws lv (.ref a :: st) := by
  obtain ⟨p, l', e, R, s, m, args, below, meth, c, Q, n', g', A⟩ := X
  obtain ⟨rfl, rfl, rfl, rfl, ⟨nm, X⟩, hK, hA, hZ⟩ := E
  intro H locs ls hP hD hS hl
  exact va_alen X.1 X.2.1 hK hP q0 0 he rfl (v := Int32.ofInt (N : Int)) (by show Int32.ofNat N = Int32.ofInt (N : Int); rfl) hdg (kk H locs ls hP hD hS hl)
end ARR
def lettersN (j : Nat) : Int := [83, 70, 84, 77, 75, 78, 80, 72].getD j 0
def defaultsN (j : Nat) : Int := [10, 20, 100, 50, 2, 60, 3, 7].getD j 0
theorem lettersV {j : Nat} (h : j < 8) : letters8 j = iv (lettersN j) := by
  match j, h with
  | 0, _ => rfl
  | 1, _ => rfl
  | 2, _ => rfl
  | 3, _ => rfl
  | 4, _ => rfl
  | 5, _ => rfl
  | 6, _ => rfl
  | 7, _ => rfl
theorem defaultsV {j : Nat} (h : j < 8) : defaults8 j = iv (defaultsN j) := by
  match j, h with
  | 0, _ => rfl
  | 1, _ => rfl
  | 2, _ => rfl
  | 3, _ => rfl
  | 4, _ => rfl
  | 5, _ => rfl
  | 6, _ => rfl
  | 7, _ => rfl
theorem g_gsL (E : EnX X l g cc n ret own fr lo) {ref : String} {index : Nat} (hlink : Cond.fieldLink own index ref "LETTERS" "[I" ∈ tb) (href : "CityRoad$Rules" = ref) (hdg : decode cc pc = .ok (.getstatic index, 3)) (kk : Go X (pc + 3) ws lv (.ref g.2.2.1 :: st)) : Go X pc ws lv st := by
  obtain ⟨p, l', e, R, s, m, args, below, meth, c, Q, n', g', A⟩ := X
  obtain ⟨rfl, rfl, rfl, rfl, ⟨nm, X⟩, hK, hA, hZ⟩ := E
  intro H locs ls hP hD hS hl
  exact va_gets X.1 X.2.1 hZ.1.1 hS X.2.2.2.1 (X.2.2.2.2.1 _ hlink) (fun _ h9 => by rw [← href]; exact h9) hdg (kk H locs ls hP hD hS hl)
theorem g_stL (E : EnX X l g cc n ret own fr lo) {i : Int} (h : 0 ≤ i ∧ i < ((8 : Nat) : Int)) (hdg : decode cc pc = .ok (.iaload, 1)) (kk : Go X (pc + 1) ws lv (iv (lettersN i.toNat) :: st)) : Go X pc ws lv (iv i :: .ref g.2.2.1 :: st) := by
  obtain ⟨p, l', e, R, s, m, args, below, meth, c, Q, n', g', A⟩ := X
  obtain ⟨rfl, rfl, rfl, rfl, ⟨nm, X⟩, hK, hA, hZ⟩ := E
  intro H locs ls hP hD hS hl
  obtain ⟨h1, h2⟩ := oi_in h (by decide)
  refine va_ti X.1 X.2.1 hZ.1.2 hS h1 (v := iv (lettersN i.toNat)) ?_ hdg (kk H locs ls hP hD hS hl)
  rw [h2]
  exact lettersV (by omega)
theorem g_gsD (E : EnX X l g cc n ret own fr lo) {ref : String} {index : Nat} (hlink : Cond.fieldLink own index ref "DEFAULTS" "[I" ∈ tb) (href : "CityRoad$Rules" = ref) (hdg : decode cc pc = .ok (.getstatic index, 3)) (kk : Go X (pc + 3) ws lv (.ref g.2.2.2 :: st)) : Go X pc ws lv st := by
  obtain ⟨p, l', e, R, s, m, args, below, meth, c, Q, n', g', A⟩ := X
  obtain ⟨rfl, rfl, rfl, rfl, ⟨nm, X⟩, hK, hA, hZ⟩ := E
  intro H locs ls hP hD hS hl
  exact va_gets X.1 X.2.1 hZ.2.1 hS X.2.2.2.1 (X.2.2.2.2.1 _ hlink) (fun _ h9 => by rw [← href]; exact h9) hdg (kk H locs ls hP hD hS hl)
theorem g_stD (E : EnX X l g cc n ret own fr lo) {i : Int} (h : 0 ≤ i ∧ i < ((8 : Nat) : Int)) (hdg : decode cc pc = .ok (.iaload, 1)) (kk : Go X (pc + 1) ws lv (iv (defaultsN i.toNat) :: st)) : Go X pc ws lv (iv i :: .ref g.2.2.2 :: st) := by
  obtain ⟨p, l', e, R, s, m, args, below, meth, c, Q, n', g', A⟩ := X
  obtain ⟨rfl, rfl, rfl, rfl, ⟨nm, X⟩, hK, hA, hZ⟩ := E
  intro H locs ls hP hD hS hl
  obtain ⟨h1, h2⟩ := oi_in h (by decide)
  refine va_ti X.1 X.2.1 hZ.2.2 hS h1 (v := iv (defaultsN i.toNat)) ?_ hdg (kk H locs ls hP hD hS hl)
  rw [h2]
  exact defaultsV (by omega)
theorem g_tabIn (E : EnX X l g cc n ret own fr lo) {x kx : Int} {dflt lo_ hi off : Int} {offs : Array Int} {len : Nat} (tgt : Nat) (hdg : decode cc pc = .ok (.tableswitch dflt lo_ hi offs, len)) (hx : x = kx) (hk : (Int32.ofInt kx).toInt = kx) (h1 : ¬ kx < lo_) (h2 : ¬ hi < kx) (ho : offs[(kx - lo_).toNat]? = some off) (ht : (pc : Int) + off = (tgt : Int)) (kk : Go X tgt ws lv st) : Go X pc ws lv (iv x :: st) := by
  obtain ⟨p, l', e, R, s, m, args, below, meth, c, Q, n', g', A⟩ := X
  obtain ⟨rfl, rfl, rfl, rfl, ⟨nm, X⟩, hK, hA, hZ⟩ := E
  intro H locs ls hP hD hS hl
  subst hx
  exact lv_tableIn X.1 X.2.1 hdg (by rw [hk]; exact h1) (by rw [hk]; exact h2) (by rw [hk]; exact ho) ht (kk H locs ls hP hD hS hl)
theorem g_tabOut (E : EnX X l g cc n ret own fr lo) {x : Int} {dflt lo_ hi : Int} {offs : Array Int} {len : Nat} (tgt : Nat) (hdg : decode cc pc = .ok (.tableswitch dflt lo_ hi offs, len)) (hx : inR x) (h : x < lo_ ∨ hi < x) (ht : (pc : Int) + dflt = (tgt : Int)) (kk : Go X tgt ws lv st) : Go X pc ws lv (iv x :: st) := by
  obtain ⟨p, l', e, R, s, m, args, below, meth, c, Q, n', g', A⟩ := X
  obtain ⟨rfl, rfl, rfl, rfl, ⟨nm, X⟩, hK, hA, hZ⟩ := E
  intro H locs ls hP hD hS hl
  exact lv_tableOut X.1 X.2.1 hdg (by rw [oi_to hx]; exact h) ht (kk H locs ls hP hD hS hl)
theorem g_look (E : EnX X l g cc n ret own fr lo) {x : Int} {dflt off : Int} {ps : Array (Int × Int)} {len : Nat} (tgt : Nat) (hdg : decode cc pc = .ok (.lookupswitch dflt ps, len)) (hx : inR x) (hp : (ps.toList.zip (ps.toList.drop 1)).all (fun (a, next) => a.1 < next.1) = true) (ho : Op.lookupswitch.offset ps.toList dflt x = off) (ht : (pc : Int) + off = (tgt : Int)) (kk : Go X tgt ws lv st) : Go X pc ws lv (iv x :: st) := by
  obtain ⟨p, l', e, R, s, m, args, below, meth, c, Q, n', g', A⟩ := X
  obtain ⟨rfl, rfl, rfl, rfl, ⟨nm, X⟩, hK, hA, hZ⟩ := E
  intro H locs ls hP hD hS hl
  exact lv_lookup X.1 X.2.1 hdg hp (by rw [oi_to hx]; exact ho) ht (kk H locs ls hP hD hS hl)
theorem narI (x : Int) : narrow .int (.int (Int32.ofInt x)) = .int (Int32.ofInt x) := rfl
theorem narB {x : Int} (h : x = 0 ∨ x = 1) : narrow .boolean (.int (Int32.ofInt x)) = .int (Int32.ofInt x) := by
  rcases h with rfl | rfl <;> rfl
theorem g_iret (E : EnX X l g cc n (some .int) own fr lo) {x r : Int} {w : va_W} (hQ : QI X r w) (hr : x = r) (hw : ws = w) (hdg : decode cc pc = .ok (.ireturn, 1)) : Go X pc ws lv [iv x] := by
  obtain ⟨p, l', e, R, s, m, args, below, meth, c, Q, n', g', A⟩ := X
  obtain ⟨rfl, rfl, rfl, rfl, ⟨nm, X⟩, hK, hA, hZ⟩ := E
  intro H locs ls hP hD hS hl
  subst hr
  subst hw
  have hQ : Q = _ := hQ
  subst hQ
  exact rI X hK hP hD hS hdg (narI x) (Nat.le_refl _) (Nat.le_refl _) ⟨rfl, rfl⟩
theorem g_zret (E : EnX X l g cc n (some .boolean) own fr lo) {x r : Int} {w : va_W} (hQ : QI X r w) (hz : x = 0 ∨ x = 1) (hr : x = r) (hw : ws = w) (hdg : decode cc pc = .ok (.ireturn, 1)) : Go X pc ws lv [iv x] := by
  obtain ⟨p, l', e, R, s, m, args, below, meth, c, Q, n', g', A⟩ := X
  obtain ⟨rfl, rfl, rfl, rfl, ⟨nm, X⟩, hK, hA, hZ⟩ := E
  intro H locs ls hP hD hS hl
  subst hr
  subst hw
  have hQ : Q = _ := hQ
  subst hQ
  exact rI X hK hP hD hS hdg (narB hz) (Nat.le_refl _) (Nat.le_refl _) ⟨rfl, rfl⟩
theorem g_lret (E : EnX X l g cc n (some .long) own fr lo) {x r : Int64} {w : va_W} (hQ : QL X r w) (hr : x = r) (hw : ws = w) (hdg : decode cc pc = .ok (.lreturn, 1)) : Go X pc ws lv [.long x] := by
  obtain ⟨p, l', e, R, s, m, args, below, meth, c, Q, n', g', A⟩ := X
  obtain ⟨rfl, rfl, rfl, rfl, ⟨nm, X⟩, hK, hA, hZ⟩ := E
  intro H locs ls hP hD hS hl
  subst hr
  subst hw
  have hQ : Q = _ := hQ
  subst hQ
  exact rL X hK hP hD hS hdg (Nat.le_refl _) (Nat.le_refl _) ⟨rfl, rfl⟩
theorem g_vret (E : EnX X l g cc n none own fr lo) {w : va_W} (hQ : QV X w) (hw : ws = w) (hdg : decode cc pc = .ok (.return_, 1)) : Go X pc ws lv [] := by
  obtain ⟨p, l', e, R, s, m, args, below, meth, c, Q, n', g', A⟩ := X
  obtain ⟨rfl, rfl, rfl, rfl, ⟨nm, X⟩, hK, hA, hZ⟩ := E
  intro H locs ls hP hD hS hl
  subst hw
  have hQ : Q = _ := hQ
  subst hQ
  exact rV X hK hP hD hS hdg (Nat.le_refl _) (Nat.le_refl _) rfl
theorem all_is (ws : va_W) : (List.range ws.length).map (fun i => ws[i]?) = ws.map some := by
  apply List.ext_getElem?
  intro i
  simp only [List.getElem?_map]
  rcases Nat.lt_or_ge i ws.length with h | h
  · rw [List.getElem?_range h]; simp [List.getElem?_eq_getElem h]
  · rw [List.getElem?_eq_none (by simpa using h), List.getElem?_eq_none h]; rfl
theorem nd_of : ∀ l : List Nat, l.Nodup → va_nd l = true
  | [], _ => rfl
  | a :: l, h => by
    simp only [va_nd, Bool.and_eq_true, decide_eq_true_eq]
    exact ⟨(List.nodup_cons.mp h).1, nd_of l (List.nodup_cons.mp h).2⟩
theorem nd_range (k : Nat) : va_nd (List.range k) = true := by
  have : (List.range k).Nodup := List.nodup_range
  exact nd_of _ this
section CALL
variable {bb : ByteArray} {n' fr' lo' k index q0 ci : Nat} {ret' : Option FieldType} {y : MethodName} {b : Nat} {As : List Value} {w : va_W} {fs : List Value} {T : u_T} {NC : Nat}
theorem g_Vi {r : Int} (E : EnX X l g cc n ret own fr lo) (hM : CI l g y bb n' ret' fr' lo' ws (.ref b :: As) r w) (ok : okM y bb n' ret' k) (okv : okV y) (hl : Cond.methodLink own index y ∈ tb) (hAs : As.length = k) (hfs : ws[q0]? = some (b, .inr (ci, fs))) (hci : classes[ci]? = some (y.cls, T, NC)) (hst : st = As.reverse ++ .ref b :: rest) (hro : (rest.map fun v => v.category).sum ≤ 8) (hR : fr' + 1 ≤ fr ∧ 8 + (n' + 11) + lo' ≤ lo) (hdg : decode cc pc = .ok (.invokevirtual index, 3)) (kk : Go X (pc + 3) w lv (iv r :: rest)) : Go X pc ws lv st := by
  obtain ⟨p, l', e, R, s, m, args, below, meth, c, Q, n', g', A⟩ := X
  obtain ⟨rfl, rfl, rfl, rfl, ⟨nm, X⟩, hK, hA, hZ⟩ := E
  intro H locs ls hP hD hS hl0
  exact kVi X hM ok okv hl hAs hK hP hD hS hA hZ hl0.1 (List.range ws.length) [] (all_is ws) (wr := []) rfl (nd_range _) rfl rfl q0 ci hfs hci hst hro hR hdg ⟨Nat.zero_le _, Nat.zero_le _⟩ (fun r1 w1 H locs hp hP hD hS => by obtain ⟨e1, e2⟩ := hp; subst e1; subst e2; exact kk H locs ls hP hD hS hl0)
theorem g_Vl {r : Int64} (E : EnX X l g cc n ret own fr lo) (hM : CL l g y bb n' ret' fr' lo' ws (.ref b :: As) r w) (ok : okM y bb n' ret' k) (okv : okV y) (hl : Cond.methodLink own index y ∈ tb) (hAs : As.length = k) (hfs : ws[q0]? = some (b, .inr (ci, fs))) (hci : classes[ci]? = some (y.cls, T, NC)) (hst : st = As.reverse ++ .ref b :: rest) (hro : (rest.map fun v => v.category).sum ≤ 8) (hR : fr' + 1 ≤ fr ∧ 8 + (n' + 11) + lo' ≤ lo) (hdg : decode cc pc = .ok (.invokevirtual index, 3)) (kk : Go X (pc + 3) w lv (.long r :: rest)) : Go X pc ws lv st := by
  obtain ⟨p, l', e, R, s, m, args, below, meth, c, Q, n', g', A⟩ := X
  obtain ⟨rfl, rfl, rfl, rfl, ⟨nm, X⟩, hK, hA, hZ⟩ := E
  intro H locs ls hP hD hS hl0
  exact kVl X hM ok okv hl hAs hK hP hD hS hA hZ hl0.1 (List.range ws.length) [] (all_is ws) (wr := []) rfl (nd_range _) rfl rfl q0 ci hfs hci hst hro hR hdg ⟨Nat.zero_le _, Nat.zero_le _⟩ (fun r1 w1 H locs hp hP hD hS => by obtain ⟨e1, e2⟩ := hp; subst e1; subst e2; exact kk H locs ls hP hD hS hl0)
theorem g_Vv (E : EnX X l g cc n ret own fr lo) (hM : CV l g y bb n' fr' lo' ws (.ref b :: As) w) (ok : okM y bb n' none k) (okv : okV y) (hl : Cond.methodLink own index y ∈ tb) (hAs : As.length = k) (hfs : ws[q0]? = some (b, .inr (ci, fs))) (hci : classes[ci]? = some (y.cls, T, NC)) (hst : st = As.reverse ++ .ref b :: rest) (hro : (rest.map fun v => v.category).sum ≤ 8) (hR : fr' + 1 ≤ fr ∧ 8 + (n' + 11) + lo' ≤ lo) (hdg : decode cc pc = .ok (.invokevirtual index, 3)) (kk : Go X (pc + 3) w lv (rest)) : Go X pc ws lv st := by
  obtain ⟨p, l', e, R, s, m, args, below, meth, c, Q, n', g', A⟩ := X
  obtain ⟨rfl, rfl, rfl, rfl, ⟨nm, X⟩, hK, hA, hZ⟩ := E
  intro H locs ls hP hD hS hl0
  exact kVv X hM ok okv hl hAs hK hP hD hS hA hZ hl0.1 (List.range ws.length) [] (all_is ws) (wr := []) rfl (nd_range _) rfl rfl q0 ci hfs hci hst hro hR hdg ⟨Nat.zero_le _, Nat.zero_le _⟩ (fun w1 H locs hp hP hD hS => by subst hp; exact kk H locs ls hP hD hS hl0)
theorem g_Si {r : Int} (E : EnX X l g cc n ret own fr lo) (hM : CI l g y bb n' ret' fr' lo' ws As r w) (ok : okM y bb n' ret' k) (oks : Cond.static y ∈ tb) (hl : Cond.methodLink own index y ∈ tb) (hAs : As.length = k) (hst : st = As.reverse ++ rest) (hro : (rest.map fun v => v.category).sum ≤ 8) (hR : fr' + 1 ≤ fr ∧ 8 + (n' + 11) + lo' ≤ lo) (hdg : decode cc pc = .ok (.invokestatic index, 3)) (kk : Go X (pc + 3) w lv (iv r :: rest)) : Go X pc ws lv st := by
  obtain ⟨p, l', e, R, s, m, args, below, meth, c, Q, n', g', A⟩ := X
  obtain ⟨rfl, rfl, rfl, rfl, ⟨nm, X⟩, hK, hA, hZ⟩ := E
  intro H locs ls hP hD hS hl0
  exact kSi X hM ok oks hl hAs hK hP hD hS hA hZ hl0.1 (List.range ws.length) [] (all_is ws) (wr := []) rfl (nd_range _) rfl rfl hst hro hR hdg ⟨Nat.zero_le _, Nat.zero_le _⟩ (fun r1 w1 H locs hp hP hD hS => by obtain ⟨e1, e2⟩ := hp; subst e1; subst e2; exact kk H locs ls hP hD hS hl0)
theorem g_Sl {r : Int64} (E : EnX X l g cc n ret own fr lo) (hM : CL l g y bb n' ret' fr' lo' ws As r w) (ok : okM y bb n' ret' k) (oks : Cond.static y ∈ tb) (hl : Cond.methodLink own index y ∈ tb) (hAs : As.length = k) (hst : st = As.reverse ++ rest) (hro : (rest.map fun v => v.category).sum ≤ 8) (hR : fr' + 1 ≤ fr ∧ 8 + (n' + 11) + lo' ≤ lo) (hdg : decode cc pc = .ok (.invokestatic index, 3)) (kk : Go X (pc + 3) w lv (.long r :: rest)) : Go X pc ws lv st := by
  obtain ⟨p, l', e, R, s, m, args, below, meth, c, Q, n', g', A⟩ := X
  obtain ⟨rfl, rfl, rfl, rfl, ⟨nm, X⟩, hK, hA, hZ⟩ := E
  intro H locs ls hP hD hS hl0
  exact kSl X hM ok oks hl hAs hK hP hD hS hA hZ hl0.1 (List.range ws.length) [] (all_is ws) (wr := []) rfl (nd_range _) rfl rfl hst hro hR hdg ⟨Nat.zero_le _, Nat.zero_le _⟩ (fun r1 w1 H locs hp hP hD hS => by obtain ⟨e1, e2⟩ := hp; subst e1; subst e2; exact kk H locs ls hP hD hS hl0)
theorem g_Sv (E : EnX X l g cc n ret own fr lo) (hM : CV l g y bb n' fr' lo' ws As w) (ok : okM y bb n' none k) (oks : Cond.static y ∈ tb) (hl : Cond.methodLink own index y ∈ tb) (hAs : As.length = k) (hst : st = As.reverse ++ rest) (hro : (rest.map fun v => v.category).sum ≤ 8) (hR : fr' + 1 ≤ fr ∧ 8 + (n' + 11) + lo' ≤ lo) (hdg : decode cc pc = .ok (.invokestatic index, 3)) (kk : Go X (pc + 3) w lv (rest)) : Go X pc ws lv st := by
  obtain ⟨p, l', e, R, s, m, args, below, meth, c, Q, n', g', A⟩ := X
  obtain ⟨rfl, rfl, rfl, rfl, ⟨nm, X⟩, hK, hA, hZ⟩ := E
  intro H locs ls hP hD hS hl0
  exact kSv X hM ok oks hl hAs hK hP hD hS hA hZ hl0.1 (List.range ws.length) [] (all_is ws) (wr := []) rfl (nd_range _) rfl rfl hst hro hR hdg ⟨Nat.zero_le _, Nat.zero_le _⟩ (fun w1 H locs hp hP hD hS => by subst hp; exact kk H locs ls hP hD hS hl0)
end CALL
theorem g_mmax (E : EnX X l g cc n ret own fr lo) {a b : Int} (ha : inR a) (hb : inR b) {index : Nat} (hlink : Cond.methodLink own index Lib.Math.max.name ∈ tb) (hstat : Cond.static Lib.Math.max.name ∈ tb) (hini : Cond.initialized "java/lang/Math" ∈ tb) (hcode : Cond.code Lib.Math.max.name Lib.Math.max.code 2 (some .int) ∈ tb) (hf : 1 ≤ fr) (hlo : (rest.map fun v => v.category).sum + 13 ≤ lo) (hdg : decode cc pc = .ok (.invokestatic index, 3)) (kk : Go X (pc + 3) ws lv (iv (max a b) :: rest)) : Go X pc ws lv (iv b :: iv a :: rest) := by
  obtain ⟨p, l', e, R, s, m, args, below, meth, c, Q, n', g', A⟩ := X
  obtain ⟨rfl, rfl, rfl, rfl, ⟨nm, X⟩, hK, hA, hZ⟩ := E
  intro H locs ls hP hD hS hl
  exact va_mmax X.1 X.2.1 (X.2.2.1.trans hl.1.symm) X.2.2.2.1 (X.2.2.2.2.1 _ hlink) (X.2.2.2.2.1 _ hstat) (X.2.2.2.2.1 _ hini) (X.2.2.2.2.1 _ hcode) hf hlo (Nat.zero_le _) (Nat.zero_le _) hdg (lv_topk (oi_max ha hb) (kk H locs ls hP hD hS hl))
theorem g_mmin (E : EnX X l g cc n ret own fr lo) {a b : Int} (ha : inR a) (hb : inR b) {index : Nat} (hlink : Cond.methodLink own index Lib.Math.min.name ∈ tb) (hstat : Cond.static Lib.Math.min.name ∈ tb) (hini : Cond.initialized "java/lang/Math" ∈ tb) (hcode : Cond.code Lib.Math.min.name Lib.Math.min.code 2 (some .int) ∈ tb) (hf : 1 ≤ fr) (hlo : (rest.map fun v => v.category).sum + 13 ≤ lo) (hdg : decode cc pc = .ok (.invokestatic index, 3)) (kk : Go X (pc + 3) ws lv (iv (min a b) :: rest)) : Go X pc ws lv (iv b :: iv a :: rest) := by
  obtain ⟨p, l', e, R, s, m, args, below, meth, c, Q, n', g', A⟩ := X
  obtain ⟨rfl, rfl, rfl, rfl, ⟨nm, X⟩, hK, hA, hZ⟩ := E
  intro H locs ls hP hD hS hl
  exact va_mmin X.1 X.2.1 (X.2.2.1.trans hl.1.symm) X.2.2.2.1 (X.2.2.2.2.1 _ hlink) (X.2.2.2.2.1 _ hstat) (X.2.2.2.2.1 _ hini) (X.2.2.2.2.1 _ hcode) hf hlo (Nat.zero_le _) (Nat.zero_le _) hdg (lv_topk (oi_min ha hb) (kk H locs ls hP hD hS hl))
theorem g_mabs (E : EnX X l g cc n ret own fr lo) {a : Int} (ha : inR a) {index : Nat} (hlink : Cond.methodLink own index Lib.Math.abs.name ∈ tb) (hstat : Cond.static Lib.Math.abs.name ∈ tb) (hini : Cond.initialized "java/lang/Math" ∈ tb) (hcode : Cond.code Lib.Math.abs.name Lib.Math.abs.code 1 (some .int) ∈ tb) (hf : 1 ≤ fr) (hlo : (rest.map fun v => v.category).sum + 13 ≤ lo) (hdg : decode cc pc = .ok (.invokestatic index, 3)) (kk : Go X (pc + 3) ws lv (iv (max a (-a)) :: rest)) : Go X pc ws lv (iv a :: rest) := by
  obtain ⟨p, l', e, R, s, m, args, below, meth, c, Q, n', g', A⟩ := X
  obtain ⟨rfl, rfl, rfl, rfl, ⟨nm, X⟩, hK, hA, hZ⟩ := E
  intro H locs ls hP hD hS hl
  exact va_mabs X.1 X.2.1 (X.2.2.1.trans hl.1.symm) X.2.2.2.1 (X.2.2.2.2.1 _ hlink) (X.2.2.2.2.1 _ hstat) (X.2.2.2.2.1 _ hini) (X.2.2.2.2.1 _ hcode) hf hlo (Nat.zero_le _) (Nat.zero_le _) hdg (lv_topk (oi_abs ha) (kk H locs ls hP hD hS hl))
theorem g_copy (E : EnX X l g cc n ret own fr lo) {a N index : Nat} {sp dp k : Int} (q0 : Nat) {f : Nat → Int} (he : ws[q0]? = some (a, .inl (cI g, N, .inl (fun j => Int32.ofInt (f j))))) (hN : N < 2 ^ 31) (h1 : 0 ≤ sp) (h2 : 0 ≤ dp) (h3 : 0 ≤ k) (h4 : sp + k ≤ (N : Int)) (h5 : dp + k ≤ (N : Int)) (hlink : Cond.methodLink own index arraycopyName ∈ tb) (hnat : Cond.native arraycopyName ∈ tb) (hstat : Cond.static arraycopyName ∈ tb) (hini : Cond.initialized "java/lang/System" ∈ tb) (hset : ws.set q0 (a, .inl (cI g, N, .inl (fun j => Int32.ofInt (va_cpy f f sp.toNat dp.toNat k.toNat j)))) = ws') (hf : 1 ≤ fr) (hlo : (rest.map fun v => v.category).sum + (nativeFrameWords "java/lang/System" "arraycopy" 5 + 11) ≤ lo) (hdg : decode cc pc = .ok (.invokestatic index, 3)) (kk : Go X (pc + 3) ws' lv rest) : Go X pc ws lv (iv k :: iv dp :: .ref a :: iv sp :: .ref a :: rest) := by
  obtain ⟨p, l', e, R, s, m, args, below, meth, c, Q, n', g', A⟩ := X
  obtain ⟨rfl, rfl, rfl, rfl, ⟨nm, X⟩, hK, hA, hZ⟩ := E
  intro H locs ls hP hD hS hl
  have e1 : (Int32.ofInt sp).toInt = sp := oi_to ⟨by omega, by omega⟩
  have e2 : (Int32.ofInt dp).toInt = dp := oi_to ⟨by omega, by omega⟩
  have e3 : (Int32.ofInt k).toInt = k := oi_to ⟨by omega, by omega⟩
  have c1 : (Int32.ofInt sp).toNatClampNeg = sp.toNat := by show (Int32.ofInt sp).toInt.toNat = _; rw [e1]
  have c2 : (Int32.ofInt dp).toNatClampNeg = dp.toNat := by show (Int32.ofInt dp).toInt.toNat = _; rw [e2]
  have c3 : (Int32.ofInt k).toNatClampNeg = k.toNat := by show (Int32.ofInt k).toInt.toNat = _; rw [e3]
  refine va_copyi X.1 X.2.1 (X.2.2.1.trans hl.1.symm) X.2.2.2.1 (X.2.2.2.2.1 _ hlink) (X.2.2.2.2.1 _ hnat) (X.2.2.2.2.1 _ hstat) (X.2.2.2.2.1 _ hini) hK hP hD hS q0 q0 0 0 he he rfl rfl rfl (by rw [i32lt, e1]; simp; omega) (by rw [i32lt, e2]; simp; omega) (by rw [i32lt, e3]; simp; omega) (by rw [c1, c3]; omega) (by rw [c2, c3]; omega) (fun _ _ => rfl) hf hlo hdg (fun H locs hP hD hS => ?_)
  have e : va_cpy (fun j => Int32.ofInt (f j)) (fun j => Int32.ofInt (f j)) (Int32.ofInt sp).toNatClampNeg (Int32.ofInt dp).toNatClampNeg (Int32.ofInt k).toNatClampNeg = fun j => Int32.ofInt (va_cpy f f sp.toNat dp.toNat k.toNat j) := by
    rw [c1, c2, c3]
    funext j
    unfold va_cpy
    split <;> rfl
  rw [e] at hP hD
  exact kk H locs ls (hset ▸ hP) (hset ▸ hD) hS hl
end ROWS
