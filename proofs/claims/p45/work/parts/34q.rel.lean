-- ---------- what is alike on both sides between calls
theorem BC10 {o : OO} (h : BoxC o) : o.1 1 0 = 6 := by
  have q : 6 ≤ o.1 1 0 ∧ o.1 1 0 ≤ 6 := h 1 0
  omega
theorem BC11 {o : OO} (h : BoxC o) : o.1 1 1 = 0 := by
  have q : 0 ≤ o.1 1 1 ∧ o.1 1 1 ≤ 0 := h 1 1
  omega
theorem BC40 {o : OO} (h : BoxC o) : o.1 4 0 = 4 := by
  have q : 4 ≤ o.1 4 0 ∧ o.1 4 0 ≤ 4 := h 4 0
  omega
theorem BC41 {o : OO} (h : BoxC o) : o.1 4 1 = 32 := by
  have q : 32 ≤ o.1 4 1 ∧ o.1 4 1 ≤ 32 := h 4 1
  omega
theorem BC13 {o : OO} (h : BoxC o) : 0 ≤ o.1 0 13 := by
  have q : 0 ≤ o.1 0 13 ∧ o.1 0 13 ≤ 999 := h 0 13
  exact q.1
theorem BC28 {o : OO} (h : BoxC o) : 0 ≤ o.1 28 3 := by
  have q : 0 ≤ o.1 28 3 ∧ o.1 28 3 ≤ 16 := h 28 3
  exact q.1
theorem BC31 {o : OO} (h : BoxC o) (j : Nat) : -1 ≤ o.1 31 j := by
  have q : -1 ≤ o.1 31 j ∧ o.1 31 j ≤ 9999 := h 31 j
  exact q.1
theorem BM10 {o : OO} (h : BoxM o) : 0 ≤ o.1 0 10 ∧ o.1 0 10 ≤ 16 := h 0 10
theorem BM4 {o : OO} (h : BoxM o) : 0 ≤ o.1 0 4 := by
  have q : 0 ≤ o.1 0 4 ∧ o.1 0 4 ≤ 999 := h 0 4
  exact q.1
section RELFR
variable {LC LM : List (Nat × Nat)} {oC oC' oM oM' : OO}
theorem SH3.fr (h : SH3 oC oM) (hC : Fr LC oC oC') (hM : Fr LM oM oM') (c1 : ∀ k, wr LC 2 k = false) (c2 : ∀ k, wr LC 3 k = false) (m1 : ∀ k, wr LM 2 k = false) (m2 : ∀ k, wr LM 3 k = false) : SH3 oC' oM' :=
  h.eq (fun j => hC.1 2 j (c1 j)) (fun j => hC.1 3 j (c2 j)) (fun j => hM.1 2 j (m1 j)) (fun j => hM.1 3 j (m2 j))
theorem SH6.fr (h : SH6 oC oM) (hC : Fr LC oC oC') (hM : Fr LM oM oM') (c1 : ∀ k, wr LC 5 k = false) (c2 : ∀ k, wr LC 6 k = false) (m1 : ∀ k, wr LM 5 k = false) (m2 : ∀ k, wr LM 6 k = false) : SH6 oC' oM' :=
  h.eq (fun j => hC.1 5 j (c1 j)) (fun j => hC.1 6 j (c2 j)) (fun j => hM.1 5 j (m1 j)) (fun j => hM.1 6 j (m2 j))
theorem day_fr (h : oC.1 0 13 = oM.1 0 4) (hC : Fr LC oC oC') (hM : Fr LM oM oM') (c1 : wr LC 0 13 = false) (m1 : wr LM 0 4 = false) : oC'.1 0 13 = oM'.1 0 4 := by
  rw [hC.1 0 13 c1, hM.1 0 4 m1]
  exact h
theorem RU.fr (h : RU oC oM) (hC : Fr LC oC oC') (hM : Fr LM oM oM') (c1 : wr LC 28 3 = false) (m1 : wr LM 0 10 = false) (c2 : ∀ k, wr LC 29 k = false) (c3 : ∀ k, wr LC 30 k = false) (c4 : ∀ k, wr LC 31 k = false) (m2 : ∀ k, wr LM 7 k = false) (m3 : ∀ k, wr LM 8 k = false) (m4 : ∀ k, wr LM 9 k = false) : RU oC' oM' := by
  have e := hM.1 0 10 m1
  refine ⟨by rw [hC.1 28 3 c1, e]; exact h.1, fun k hk => ?_, fun k w hk hw => ?_⟩
  · rw [e] at hk
    rw [hC.1 29 k (c2 k), hC.1 30 k (c3 k), hM.1 7 k (m2 k), hM.1 8 k (m3 k)]
    exact h.2.1 k hk
  · rw [e] at hk
    rw [hC.1 31 _ (c4 _), hM.1 9 _ (m4 _)]
    exact h.2.2 k w hk hw
theorem ACR.fr (h : ACR oC oM) (hC : Fr LC oC oC') (hM : Fr LM oM oM') (c1 : wr LC 66 0 = false) (m1 : wr LM 0 65 = false) (c2 : ∀ k, wr LC 67 k = false) (m2 : ∀ k, wr LM 54 k = false) : ACR oC' oM' := by
  have e := hM.1 0 65 m1
  refine ⟨by rw [hC.1 66 0 c1, e]; exact h.1, fun k hk => ?_⟩
  rw [e] at hk
  rw [hC.1 67 k (c2 k), hM.1 54 k (m2 k)]
  exact h.2 k hk
end RELFR
theorem later_rel {oC oM : OO} {x1 : Int} {vC vM : Int × OO} (h : oC.1 0 13 = oM.1 0 4) (hC : vC.1 = LAA x1 (oC.1 0 13) ∧ vC.2.1 0 13 = LAN x1 (oC.1 0 13)) (hM : vM.1 = LAA x1 (oM.1 0 4) ∧ vM.2.1 0 4 = LAN x1 (oM.1 0 4)) : vC.1 = vM.1 ∧ vC.2.1 0 13 = vM.2.1 0 4 := by
  rw [h] at hC
  exact ⟨hC.1.trans hM.1.symm, hC.2.trans hM.2.symm⟩
def REL (oC oM : OO) : Prop := SH3 oC oM ∧ SH6 oC oM ∧ oC.1 0 13 = oM.1 0 4 ∧ RU oC oM ∧ ACR oC oM
