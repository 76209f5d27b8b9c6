set_option maxRecDepth 100000
section
variable {u v w : MS} {N lv t t2 n : Nat} {l l2 : List Int} {x y c a k : Int}
theorem seekF_ok (h : 0 ≤ F u 442 ∧ F u 442 ≤ 666) (ha : RG a) (hk : RG k) (hN : 1000 ≤ N) : OK (fun w r => w = u ∧ (r = I (-1) ∨ ∃ f : Nat, r = I ((f : Nat) : Int) ∧ ((f : Nat) : Int) < F u 442 ∧ A u 24 f = a ∧ A u 25 f = k)) (hm_Co_seek N u (I a) (I k)) := by
  have gen : ∀ (M f : Nat), ((f : Nat) : Int) ≤ F u 442 → 668 ≤ M + f → OK (fun w r => w = u ∧ (r = I (-1) ∨ ∃ f : Nat, r = I ((f : Nat) : Int) ∧ ((f : Nat) : Int) < F u 442 ∧ A u 24 f = a ∧ A u 25 f = k)) (hg_Co_seek N M u (I a) (I k) (I ((f : Nat) : Int))) := by
    intro M
    induction M with
    | zero => intro f hf hM; omega
    | succ M ih =>
      intro f hf hM
      show OK _ (hb_Co_seek_2 N (hg_Co_seek N M) u (I a) (I k) (I ((f : Nat) : Int)))
      unfold hb_Co_seek_2 hb_Co_seek_32
      rw [I_F (k := 442)]
      refine k_le ⟨by omega, by omega⟩ ⟨by omega, by omega⟩ (fun _ => ok_some.mpr ⟨rfl, Or.inl rfl⟩) (fun hlt => e_in ⟨by omega, by omega⟩ (by decide) ?_)
      rw [tnI (n := f) rfl (by omega), I_A (k := 24), I_A (k := 25), lit1q, I_add, show ((f : Nat) : Int) + 1 = ((f + 1 : Nat) : Int) by omega]
      have nx := ih (f + 1) (by omega) (by omega)
      refine k_eq (A_r _ _ _) ha (fun e1 => e_in ⟨by omega, by omega⟩ (by decide) ?_) (fun _ => nx)
      exact k_eq (A_r _ _ _) hk (fun e2 => ok_some.mpr ⟨rfl, Or.inr ⟨f, rfl, hlt, e1, e2⟩⟩) (fun _ => nx)
  unfold hm_Co_seek hb_Co_seek_0
  rw [lit0q]
  exact gen N 0 (by omega) (by omega)
theorem takL_e : ∀ k : Fin 29, takL.getD k.val 0 = I ((tkc ((k.val : Nat) : Int) : Nat) : Int) := by decide
theorem preOf_ok (h36 : WDc u 36) (h1 : WDc u 1) (hx : RG x) (hn : n ≤ 6) (hN : 200010 ≤ N) : OK (fun w r => w = u ∧ (r = I (-1) ∨ ∃ d : Nat, r = I ((d : Nat) : Int) ∧ ((d = 29 ∧ n = 2) ∨ (d < 29 ∧ tkc ((d : Nat) : Int) = n)))) (hm_Cm_predefinedOf N u (I x) (I ((n : Nat) : Int))) := by
  unfold hm_Cm_predefinedOf hb_Cm_predefinedOf_0
  have e27 : ∀ y : Int, -1 ≤ y → RG y → OK (fun w r => w = u ∧ (r = I (-1) ∨ ∃ d : Nat, r = I ((d : Nat) : Int) ∧ ((d = 29 ∧ n = 2) ∨ (d < 29 ∧ tkc ((d : Nat) : Int) = n)))) (hb_Cm_predefinedOf_27 N () u (I ((n : Nat) : Int)) (I y)) := fun y hy hr => by
    unfold hb_Cm_predefinedOf_27 hb_Cm_predefinedOf_53 hb_Cm_predefinedOf_54
    refine k_c (y := -1) rfl hr ⟨by decide, by decide⟩ (fun _ => ok_some.mpr ⟨rfl, Or.inl rfl⟩) (fun z => ?_)
    rw [show (29 : Int32) = I 29 from rfl]
    refine k_le ⟨by decide, by decide⟩ hr (fun _ => ok_some.mpr ⟨rfl, Or.inl rfl⟩) (fun z2 => e_in ⟨by omega, by omega⟩ (by decide) ?_)
    obtain ⟨d, rfl⟩ : ∃ d : Nat, y = ((d : Nat) : Int) := ⟨y.toNat, by omega⟩
    have hd : d < 29 := by omega
    have te : takL.getD d 0 = I ((tkc ((d : Nat) : Int) : Nat) : Int) := takL_e ⟨d, hd⟩
    rw [tnI (n := d) rfl (by omega), te]
    have tb : tkc ((d : Nat) : Int) ≤ 2 := by unfold tkc; split <;> (try split) <;> omega
    refine k_eq ⟨by omega, by omega⟩ ⟨by omega, by omega⟩ (fun e => ok_some.mpr ⟨rfl, Or.inr ⟨d, rfl, Or.inr ⟨hd, ?_⟩⟩⟩) (fun _ => ok_some.mpr ⟨rfl, Or.inl rfl⟩)
    have : ((tkc ((d : Nat) : Int) : Nat) : Int) = ((n : Nat) : Int) := e
    omega
  have sk : OK (fun w r => w = u ∧ ∃ y : Int, r = I y ∧ -1 ≤ y ∧ RG y) (hm_Wo_seekIn N u 1 36 (I x)) := by
    unfold hm_Wo_seekIn hb_Wo_seekIn_0 hb_Wo_seekIn_12 hb_Wo_seekIn_45
    have no : (fun (w : MS) (r : Int32) => w = u ∧ ∃ y : Int, r = I y ∧ -1 ≤ y ∧ RG y) u (-1) := ⟨rfl, -1, rfl, by omega, ⟨by decide, by decide⟩⟩
    rw [lit0q]
    refine k_lt hx ⟨by decide, by decide⟩ (fun _ => ok_some.mpr no) (fun z => ?_)
    rw [I_F (k := 20 * 1 + 2)]
    obtain ⟨d1, d2, d3, d4, d5⟩ := h1
    have d36 := h36.1
    refine k_lt hx (F_r _ _) (fun z2 => ?_) (fun _ => ok_some.mpr no)
    obtain ⟨s, rfl⟩ : ∃ s : Nat, x = ((s : Nat) : Int) := ⟨x.toNat, by omega⟩
    obtain ⟨c1, c2, c3⟩ := d5 s z2
    have d2' : F u (20 * 1 + 2) + 1 ≤ ((il (1 + 2) : Nat) : Int) := d2
    refine e_in ⟨by omega, by omega⟩ (by omega) ?_
    rw [lit1q, I_add, show ((s : Nat) : Int) + 1 = ((s + 1 : Nat) : Int) by omega]
    refine e_in ⟨by omega, by omega⟩ (by omega) (e_in ⟨by omega, by omega⟩ (by omega) ?_)
    rw [tnI (n := s) rfl (by omega), tnI (n := s + 1) rfl (by omega), I_A (k := 1 + 2), I_A (k := 1 + 2), I_sub, ok_bnd]
    refine ok_mono (seekW_ok (N := N) (b := 1 + 1) h36 (by omega) d4 c1 (by omega) (by omega) hN) (fun w r hw => ok_some.mpr ?_)
    obtain ⟨rfl, hr⟩ := hw
    rcases hr with rfl | ⟨k, rfl, hk⟩
    · exact no
    · have := F_r w (20 * 36 + 2)
      exact ⟨rfl, _, rfl, by omega, ⟨by omega, by omega⟩⟩
  rw [ok_bnd]
  refine ok_mono sk (fun w r hw => ?_)
  obtain ⟨rfl, y, rfl, hy, hr⟩ := hw
  refine k_c (y := 7) rfl hr ⟨by decide, by decide⟩ (fun _ => ?_) (fun _ => e27 y hy hr)
  exact k_c (y := 2) rfl ⟨by omega, by omega⟩ ⟨by decide, by decide⟩ (fun z => ok_some.mpr ⟨rfl, Or.inr ⟨29, rfl, Or.inl ⟨rfl, by omega⟩⟩⟩) (fun _ => e27 y hy hr)
theorem holdN_ok {fr to : Nat} (h : CVI u lv) (hft : fr ≤ to) (hto : to ≤ 4000) (hN : 1000000000 ≤ N) : OK (fun w r => (∃ l, EMc u w l) ∧ r = I (F w 441 - F u 441)) (hm_Cm_hold N u (I ((fr : Nat) : Int)) (I ((to : Nat) : Int))) := by
  have hs := h.1
  have e9 : F u 709 = ((lv : Nat) : Int) := h.2.2.1.1
  have gen : ∀ (M : Nat), (∀ (t : Nat) (v : MS) (l : List Int), EMc u v l → t ≤ to + 1 → (to + 1 - t) * 24010 < M → OK (fun w r => (∃ l, EMc u w l) ∧ r = I (F w 441 - F u 441)) ((hg_Cm_hold N M).1 v (I ((to : Nat) : Int)) (I (F u 441)) (I ((t : Nat) : Int)))) ∧ (∀ (t i : Nat) (nm : Int32) (v : MS) (l : List Int), EMc u v l → t ≤ to → i ≤ 24000 → (to - t) * 24010 + (24005 - i) < M → OK (fun w r => (∃ l, EMc u w l) ∧ r = I (F w 441 - F u 441)) ((hg_Cm_hold N M).2 v (I ((to : Nat) : Int)) (I (F u 441)) (I ((t : Nat) : Int)) nm (I ((i : Nat) : Int)))) := by
    intro M
    induction M with
    | zero => exact ⟨fun t v l _ _ hM => by omega, fun t i nm v l _ _ _ hM => by omega⟩
    | succ M ih =>
      have n113 : ∀ (t : Nat) (v : MS) (l : List Int), EMc u v l → t ≤ to → (to - t) * 24010 < M → OK (fun w r => (∃ l, EMc u w l) ∧ r = I (F w 441 - F u 441)) (hb_Cm_hold_113 N (hg_Cm_hold N M) v (I ((to : Nat) : Int)) (I (F u 441)) (I ((t : Nat) : Int))) := fun t v l ev ht hM => by
        unfold hb_Cm_hold_113
        rw [lit1q, I_add, show ((t : Nat) : Int) + 1 = ((t + 1 : Nat) : Int) by omega]
        exact ih.1 (t + 1) v l ev (by omega) (by omega)
      refine ⟨fun t v l ev ht hM => ?_, fun t i nm v l ev ht hi hM => ?_⟩
      · show OK _ (hb_Cm_hold_11 N (hg_Cm_hold N M) v (I ((to : Nat) : Int)) (I (F u 441)) (I ((t : Nat) : Int)))
        unfold hb_Cm_hold_11
        refine k_lt ⟨by omega, by omega⟩ ⟨by omega, by omega⟩ (fun _ => ok_some.mpr ⟨⟨l, ev⟩, by rw [I_F (k := 441), I_sub]⟩) (fun z => e_in ⟨by omega, by omega⟩ (by decide) ?_)
        have nx := n113 t v l ev (by omega) (by omega)
        refine ok_br.mpr ⟨fun _ => e_in ⟨by omega, by omega⟩ (by decide) (ok_br.mpr ⟨fun _ => nx, fun _ => e_in ⟨by omega, by omega⟩ (by decide) ?_⟩), fun _ => nx⟩
        obtain ⟨s, hs2⟩ : ∃ s : Nat, F u 441 = ((s : Nat) : Int) := ⟨(F u 441).toNat, by omega⟩
        have := ih.2 t s (v.2.2.1 7 (I ((t : Nat) : Int)).toNatClampNeg) v l ev (by omega) (by omega) (by omega)
        rw [hs2] at this ⊢
        exact this
      · show OK _ (hb_Cm_hold_60 N (hg_Cm_hold N M) v (I ((to : Nat) : Int)) (I (F u 441)) (I ((t : Nat) : Int)) nm (I ((i : Nat) : Int)))
        have vs := EMc.s hs ev
        have e92 : OK (fun w r => (∃ l, EMc u w l) ∧ r = I (F w 441 - F u 441)) (hb_Cm_hold_92 N (hg_Cm_hold N M) v (I ((to : Nat) : Int)) (I (F u 441)) (I ((t : Nat) : Int)) nm (I ((i : Nat) : Int))) := by
          unfold hb_Cm_hold_92
          refine ok_br.mpr ⟨fun _ => ?_, fun _ => n113 t v l ev ht (by omega)⟩
          rw [I_of nm]
          exact put_B hs.1 ev (ti_rng _) (fun w2 e2 => n113 t w2 _ e2 ht (by omega))
        unfold hb_Cm_hold_60
        rw [I_F (k := 441)]
        refine k_le ⟨by omega, by omega⟩ ⟨by omega, by omega⟩ (fun _ => e92) (fun z => ?_)
        obtain ⟨y, hy, e, -⟩ := atC_e (N := N) (u := v) (c := ((i : Nat) : Int)) ⟨by omega, by omega⟩
        rw [e, bnd_so]
        refine ok_br.mpr ⟨fun _ => e92, fun _ => ?_⟩
        rw [lit1q, I_add, show ((i : Nat) : Int) + 1 = ((i + 1 : Nat) : Int) by omega]
        exact ih.2 t (i + 1) nm v l ev ht (by omega) (by omega)
  unfold hm_Cm_hold hb_Cm_hold_0
  rw [I_F (k := 441)]
  exact (gen N).1 fr u [] (EMc.nl hs.2) (by omega) (by omega)
end
