/-! the class: show() leaves all but its text -/
set_option maxRecDepth 100000
section
variable {u0 u w m : MS} {N : Nat}
theorem Kf1_r (h : Kf1c u0 u) (e : Kr1c u w) : Kf1c u0 w := by
  have e : w = u := e
  rw [e]; exact h
theorem text_fx {v1 : Nat} {v2 : Int64} (h : Kf1c u0 u) : Kf1E u0 (hm_Te_text N u v1 v2 56 0) := by
  intro w r e
  unfold hm_Te_text hb_Te_text_0 at e
  simp only [lt_e] at e
  have hc : Kx1c u (upJ (upI (upI (upI u 1964 (Int32.ofNat 56)) 865 0) 866 0) 45 (vp_updL ((upI (upI (upI u 1964 (Int32.ofNat 56)) 865 0) 866 0).2.2.2 45) (0 : Int32).toNatClampNeg v2)) := by
    refine ⟨fun k h1 h2 h3 => ?_, ?_, fun _ _ => rfl, fun k hk => if_neg hk, rfl⟩
    · show (upI (upI (upI u 1964 (Int32.ofNat 56)) 865 0) 866 0).1 k = _
      rw [upI_ne h2, upI_ne h1, upI_ne h3]
    · show (upI (upI (upI u 1964 (Int32.ofNat 56)) 865 0) 866 0).1 1964 = _
      rw [upI_ne (by decide), upI_ne (by decide), upI_at]
  have q : Kx1E u (ck (inb (0 : Int32) 2048) ((hg_Te_text N N) (upJ (upI (upI (upI u 1964 (Int32.ofNat 56)) 865 0) 866 0) 45 (vp_updL ((upI (upI (upI u 1964 (Int32.ofNat 56)) 865 0) 866 0).2.2.2 45) (0 : Int32).toNatClampNeg v2)) v1 1 0)) := Kx1_ck (yx1_hg_Te_text (N := N) N _ _ _ _ hc)
  obtain ⟨q1, q2, q3, q4, q5⟩ := q w r e
  refine ⟨fun k hk => ?_, fun k hk => ?_, fun k hk => (q4 k hk).trans (h.2.2.1 k hk), q5.trans h.2.2.2⟩
  · have hk' := hk
    simp only [List.mem_cons, List.not_mem_nil, or_false, not_or] at hk'
    exact (q1 k hk'.2.2.1 hk'.2.2.2.1 hk'.2.2.2.2).trans (h.1 k hk)
  · have hk' := hk
    simp only [List.mem_cons, List.not_mem_nil, or_false, not_or] at hk'
    exact (q3 k hk'.2).trans (h.2.1 k hk)
theorem show_fx {v1 v2 v3 : Int32} (h : Kf1c u0 u) : Kf1E u0 (hm_H_show N u v1 v2 v3) := by
  have k9 : ∀ {w : MS} {r : Int32}, Kf1c u0 w → Kf1E u0 (lt (upI w 9 r) (fun w7 => some (w7, (w7.1 9)))) := fun hw => Kf1_some (Kf1_I hw (by decide))
  have tx : ∀ {w : MS} {b : Nat} {t : Int64}, Kf1c u0 w → Kf1E u0 (bnd (hm_Te_text N w b t 56 0) (fun u5 r5 => lt (upI u5 9 r5) (fun w7 => some (w7, (w7.1 9))))) := fun hw => Kf1_bnd (text_fx hw) (fun w r hw => k9 hw)
  have so : ∀ {w : MS} {r : Int32}, Kf1c u0 w → Kf1E u0 (some (w, r)) := fun hw => Kf1_some hw
  have rd : ∀ {α β : Type} {w : MS} {o : Option (MS × α)} {f : MS → α → Option (MS × β)}, Kf1c u0 w → Kr1E w o → (∀ v r, Kf1c u0 v → Kf1E u0 (f v r)) → Kf1E u0 (bnd o f) := fun hw ho hf => Kf1_bnd (fun v r e => Kf1_r hw (ho v r e)) hf
  have e145 : ∀ {w : MS} {v2 v3 v6 t0 : Int32} {v4 v5 : Nat}, Kf1c u0 w → Kf1E u0 (hb_H_show_145 N () w v2 v3 v4 v5 v6 t0) := fun hw => by
    unfold hb_H_show_145 hb_H_show_209
    exact Kf1_br (Kf1_br (Kf1_ck (tx hw)) (Kf1_br (rd hw (yr1_hm_Fr_of Kr1_rf) (fun w r hw => Kf1_ck (tx hw))) (rd hw (yr1_hm_Fr_of Kr1_rf) (fun w r hw => Kf1_ck (tx hw))))) (so hw)
  unfold hm_H_show hb_H_show_0 hb_H_show_19 hb_H_show_39 hb_H_show_93
  exact rd h (yr1_hm_Wl_find Kr1_rf) (fun w r hw => Kf1_br (so hw) (Kf1_br (Kf1_br (Kf1_bo (fun j => Kf1_br (Kf1_br (Kf1_bo (fun j => tx hw)) (so hw)) (so hw))) (Kf1_br (so hw) (Kf1_br (so hw) (Kf1_bo (fun j => Kf1_br (so hw) (Kf1_br (e145 hw) (Kf1_br (rd hw (yr1_hm_Fr_namesIn Kr1_rf) (fun w r hw => e145 hw)) (rd hw (yr1_hm_Fr_waitsIn Kr1_rf) (fun w r hw => e145 hw))))))))) (so hw)))
end
