-- ---------- later
def LAA (x t : Int) : Int := if x < 0 then -1 else if 999 - t < x then -1 else t + x
def LAN (x t : Int) : Int := if x < 0 then t else if 999 - t < x then t else t + x
theorem ra_later_C (o : OO) (x1 : Int) : Pa (s_X11_later o x1) (fun v => v.1 = LAA x1 (o.1 0 13) ∧ v.2.1 0 13 = LAN x1 (o.1 0 13)) := by
  unfold s_X11_later b_X11_later_16 LAA LAN
  refine Pa_qLt (fun _ _ h => ?_) (fun _ _ h => ?_)
  · exact Pa_some ⟨by rw [if_pos h], by rw [if_pos h]⟩
  refine Pa_qLt (fun _ _ h2 => ?_) (fun _ _ h2 => ?_)
  · exact Pa_some ⟨by rw [if_neg h, if_pos h2], by rw [if_neg h, if_pos h2]⟩
  · exact Pa_qNm (Pa_some ⟨by rw [if_neg h, if_neg h2]; rfl, by rw [if_neg h, if_neg h2]; rfl⟩)
theorem ra_later_M (o : OO) (x1 : Int) : Pa (s_X12_later o x1) (fun v => v.1 = LAA x1 (o.1 0 4) ∧ v.2.1 0 4 = LAN x1 (o.1 0 4)) := by
  unfold s_X12_later b_X12_later_16 LAA LAN
  refine Pa_qLt (fun _ _ h => ?_) (fun _ _ h => ?_)
  · exact Pa_some ⟨by rw [if_pos h], by rw [if_pos h]⟩
  refine Pa_qLt (fun _ _ h2 => ?_) (fun _ _ h2 => ?_)
  · exact Pa_some ⟨by rw [if_neg h, if_pos h2], by rw [if_neg h, if_pos h2]⟩
  · exact Pa_qNm (Pa_some ⟨by rw [if_neg h, if_neg h2]; rfl, by rw [if_neg h, if_neg h2]; rfl⟩)
