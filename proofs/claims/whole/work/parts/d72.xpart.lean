/-! parts: what their beginning and their end write, here -/
set_option maxRecDepth 100000
section
variable {α β : Type} {m0 w0 m w m2 w2 m3 w3 v u : MS} {K nm Nk W W2 : Nat → Nat} {N T D d o a b c p q k f i j pn rn nd : Nat} {Q Q2 Q3 Q4 : Nat → Nat} {sc sc2 sc3 t : SCT} {e : List Nat × List Nat × Nat} {C : Nat → Int} {R : Nat → Nat → Int} {J : Nat → Int64} {H O O2 : List Nat} {v1 v2 v3 v4 : Int32} {RR : MS → α → MS → β → Prop} {A' : Option (MS × α)} {RP : MS → α → MS → Int32 → Prop}
theorem ptr_1 (h : PTs C R J H f i pn O j O2) (hf : f ≤ 230) : PTr C R J H 230 1 i ((pn : Nat) : Int) O j O2 := by
  refine ⟨fun k => if k = 0 then i else j, fun _ => pn, fun k => if k = 0 then O else O2, rfl, rfl, rfl, rfl, rfl, fun k hk => ?_⟩
  have : k = 0 := by omega
  subst this
  exact ⟨PT_mo hf h, fun z => by omega⟩
/-- a root is added -/
theorem rt_add {F : MS → Unit → Option (MS × β)} (hrn : rn ≤ 24000) (hnd : nd ≤ 24000) (h : ∀ V, V.1 = w.1 → V.2.2.2 = w.2.2.2 → (∀ k n, (k ≠ 28 ∨ n ≠ nd) → (k ≠ 29 ∨ n ≠ rn) → V.2.2.1 k n = w.2.2.1 k n) → V.2.2.1 28 nd = I (rn : Nat) → V.2.2.1 29 rn = w.2.2.1 28 nd → PP RR A' (F V ())) : PP RR A' (bnd (fm_M_addRoot N w (I (nd : Nat)) (I (rn : Nat))) F) := by
  unfold fm_M_addRoot fb_M_addRoot_0 fb_M_addRoot_24
  rw [decide_eq_false (fun z => by
    have := (I_eq (x := ((rn : Nat) : Int)) (y := -1) (by omega) (by omega) (by decide) (by decide)).mp (z.trans rfl)
    omega), br_f, i_nt2 (p := nd) (by omega), i_nt2 (p := rn) (by omega), bnd_ck]
  refine r_ck (fun _ => ?_)
  rw [bnd_ck]
  refine r_ck (fun _ => ?_)
  rw [bnd_lt]
  refine r_lt ?_
  rw [bnd_ck]
  refine r_ck (fun _ => ?_)
  rw [bnd_lt]
  refine r_lt ?_
  rw [bnd_s]
  refine h _ rfl rfl (fun k n h1 h2 => ?_) ?_ ?_
  · by_cases z : k = 28
    · subst z
      rw [upA_at, upd_no (h1.resolve_left (fun z => z rfl)), upA_no (by decide)]
    · rw [upA_no z]
      by_cases y : k = 29
      · subst y
        rw [upA_at, upd_no (h2.resolve_left (fun z => z rfl))]
      · rw [upA_no y]
  · rw [upA_at, upd_at]
  · rw [upA_no (by decide), upA_at, upd_at]
/-- a part begins, here -/
theorem pt_beg {S : SG_M_behind} {G : MS → Int32 → Int32 → Int32 → Int32 → Int32 → Option (MS × Int32)} {B : Option (MS × α)} (hR : XRS w0 T w p Q (e :: t)) (h : ∀ V, Q 46 < 16000 → XRS w0 T V p (qst Q 46 (Q 46 + 1)) (e :: t) → QRR Q w V → V.2.2.2 = w.2.2.2 → (∀ k n, (k ≠ 41 ∧ k ≠ 44 ∧ k ≠ 45) ∨ n ≠ Q 46 → V.2.2.1 k n = w.2.2.1 k n) → V.2.2.1 44 (Q 46) = I (p : Nat) → V.2.2.1 45 (Q 46) = -1 → V.2.2.1 41 (Q 46) = (if v1 = 0 then 1 else 0) → (∀ k, k ≠ 46 → V.1 k = w.1 k) → PP RP B (br (decide (v1 = 0)) (bnd (kr_M_patternAt N V 0) (fun u17 r17 => kb_M_parts0_105 N S G u17 v1 v2 v3 v4 (I (Q 46 : Nat)) (I (e.1.length : Nat)) 40 (I (Q 46 : Nat)) r17)) (kb_M_parts0_105 N S G V v1 v2 v3 v4 (I (Q 46 : Nat)) (I (e.1.length : Nat)) 40 (I (Q 46 : Nat)) (-1)))) : PP RP B (kb_M_parts0_19 N S G w v1 v2 v3 v4 1) := by
  have q46 := hR.2 46 (by decide)
  have rn := hR.1.2.2.2.1
  have tl : t.length + 1 ≤ 27 := rn.2.1.2
  have h60 : w.2.2.1 60 t.length = I (e.1.length : Nat) := rn.2.2.1.1.1
  have h65 : w.1 65 = I (t.length : Nat) := rn.1
  have h69 : w.1 69 = I (p : Nat) := hR.1.2.1.1
  unfold kb_M_parts0_19
  rw [show decide ((1 : Int32) = 0) = false from rfl, br_f, q46.1, i_suc, i_nt2 (p := Q 46) (by omega)]
  refine r_lt (r_ck (fun z => r_lt (r_ck (fun _ => r_lt ?_))))
  have hk : Q 46 < 16000 := by
    have := (I_inb (n := ln 44) (x := ((Q 46 : Nat) : Int)) (by omega) (by omega)).mp z
    have l44 : ln 44 ≤ 16000 := by decide
    omega
  have go : ∀ x : Int32, x = (if v1 = 0 then 1 else 0) → PP RP B (kb_M_parts0_74 N S G (upA (upA (upI w 46 (I ((Q 46 + 1 : Nat) : Int))) 44 (upd ((upI w 46 (I ((Q 46 + 1 : Nat) : Int))).2.2.1 44) (Q 46) ((upI w 46 (I ((Q 46 + 1 : Nat) : Int))).1 69))) 45 (upd ((upA (upI w 46 (I ((Q 46 + 1 : Nat) : Int))) 44 (upd ((upI w 46 (I ((Q 46 + 1 : Nat) : Int))).2.2.1 44) (Q 46) ((upI w 46 (I ((Q 46 + 1 : Nat) : Int))).1 69))).2.2.1 45) (Q 46) (-1))) v1 v2 v3 v4 (I (Q 46 : Nat)) 41 (I (Q 46 : Nat)) x) := fun x hx => by
    unfold kb_M_parts0_74
    rw [i_nt2 (p := Q 46) (by omega)]
    refine r_ck (fun _ => r_ck (fun _ => r_lt ?_))
    have i69 : (upI w 46 (I ((Q 46 + 1 : Nat) : Int))).1 69 = I (p : Nat) := by rw [upI_ne (by decide)]; exact h69
    rw [i69]
    have y1 : ∀ k n, (k ≠ 41 ∧ k ≠ 44 ∧ k ≠ 45) ∨ n ≠ Q 46 → (upA (upA (upA (upI w 46 (I ((Q 46 + 1 : Nat) : Int))) 44 (upd ((upI w 46 (I ((Q 46 + 1 : Nat) : Int))).2.2.1 44) (Q 46) (I (p : Nat)))) 45 (upd ((upA (upI w 46 (I ((Q 46 + 1 : Nat) : Int))) 44 (upd ((upI w 46 (I ((Q 46 + 1 : Nat) : Int))).2.2.1 44) (Q 46) (I (p : Nat)))).2.2.1 45) (Q 46) (-1))) 41 (upd ((upA (upA (upI w 46 (I ((Q 46 + 1 : Nat) : Int))) 44 (upd ((upI w 46 (I ((Q 46 + 1 : Nat) : Int))).2.2.1 44) (Q 46) (I (p : Nat)))) 45 (upd ((upA (upI w 46 (I ((Q 46 + 1 : Nat) : Int))) 44 (upd ((upI w 46 (I ((Q 46 + 1 : Nat) : Int))).2.2.1 44) (Q 46) (I (p : Nat)))).2.2.1 45) (Q 46) (-1))).2.2.1 41) (Q 46) x)).2.2.1 k n = w.2.2.1 k n := fun k n hk => by
      by_cases z1 : k = 41
      · subst z1
        rw [upA_at, upd_no (by omega), upA_no (by decide), upA_no (by decide)]; rfl
      · rw [upA_no z1]
        by_cases z2 : k = 45
        · subst z2
          rw [upA_at, upd_no (by omega), upA_no (by decide)]; rfl
        · rw [upA_no z2]
          by_cases z3 : k = 44
          · subst z3
            rw [upA_at, upd_no (by omega)]; rfl
          · rw [upA_no z3]; rfl
    have hQ : QRR Q w (upA (upA (upA (upI w 46 (I ((Q 46 + 1 : Nat) : Int))) 44 (upd ((upI w 46 (I ((Q 46 + 1 : Nat) : Int))).2.2.1 44) (Q 46) (I (p : Nat)))) 45 (upd ((upA (upI w 46 (I ((Q 46 + 1 : Nat) : Int))) 44 (upd ((upI w 46 (I ((Q 46 + 1 : Nat) : Int))).2.2.1 44) (Q 46) (I (p : Nat)))).2.2.1 45) (Q 46) (-1))) 41 (upd ((upA (upA (upI w 46 (I ((Q 46 + 1 : Nat) : Int))) 44 (upd ((upI w 46 (I ((Q 46 + 1 : Nat) : Int))).2.2.1 44) (Q 46) (I (p : Nat)))) 45 (upd ((upA (upI w 46 (I ((Q 46 + 1 : Nat) : Int))) 44 (upd ((upI w 46 (I ((Q 46 + 1 : Nat) : Int))).2.2.1 44) (Q 46) (I (p : Nat)))).2.2.1 45) (Q 46) (-1))).2.2.1 41) (Q 46) x)) := QRR_A (QRR_A (QRR_A (QRR_I QRR_rf) (by decide) (Nat.le_refl _)) (by decide) (Nat.le_refl _)) (by decide) (Nat.le_refl _)
    have y44 : (upA (upA (upA (upI w 46 (I ((Q 46 + 1 : Nat) : Int))) 44 (upd ((upI w 46 (I ((Q 46 + 1 : Nat) : Int))).2.2.1 44) (Q 46) (I (p : Nat)))) 45 (upd ((upA (upI w 46 (I ((Q 46 + 1 : Nat) : Int))) 44 (upd ((upI w 46 (I ((Q 46 + 1 : Nat) : Int))).2.2.1 44) (Q 46) (I (p : Nat)))).2.2.1 45) (Q 46) (-1))) 41 (upd ((upA (upA (upI w 46 (I ((Q 46 + 1 : Nat) : Int))) 44 (upd ((upI w 46 (I ((Q 46 + 1 : Nat) : Int))).2.2.1 44) (Q 46) (I (p : Nat)))) 45 (upd ((upA (upI w 46 (I ((Q 46 + 1 : Nat) : Int))) 44 (upd ((upI w 46 (I ((Q 46 + 1 : Nat) : Int))).2.2.1 44) (Q 46) (I (p : Nat)))).2.2.1 45) (Q 46) (-1))).2.2.1 41) (Q 46) x)).2.2.1 44 (Q 46) = I (p : Nat) := by rw [upA_no (by decide), upA_no (by decide), upA_at, upd_at]
    have y45 : (upA (upA (upA (upI w 46 (I ((Q 46 + 1 : Nat) : Int))) 44 (upd ((upI w 46 (I ((Q 46 + 1 : Nat) : Int))).2.2.1 44) (Q 46) (I (p : Nat)))) 45 (upd ((upA (upI w 46 (I ((Q 46 + 1 : Nat) : Int))) 44 (upd ((upI w 46 (I ((Q 46 + 1 : Nat) : Int))).2.2.1 44) (Q 46) (I (p : Nat)))).2.2.1 45) (Q 46) (-1))) 41 (upd ((upA (upA (upI w 46 (I ((Q 46 + 1 : Nat) : Int))) 44 (upd ((upI w 46 (I ((Q 46 + 1 : Nat) : Int))).2.2.1 44) (Q 46) (I (p : Nat)))) 45 (upd ((upA (upI w 46 (I ((Q 46 + 1 : Nat) : Int))) 44 (upd ((upI w 46 (I ((Q 46 + 1 : Nat) : Int))).2.2.1 44) (Q 46) (I (p : Nat)))).2.2.1 45) (Q 46) (-1))).2.2.1 41) (Q 46) x)).2.2.1 45 (Q 46) = -1 := by rw [upA_no (by decide), upA_at, upd_at]
    have y41 : (upA (upA (upA (upI w 46 (I ((Q 46 + 1 : Nat) : Int))) 44 (upd ((upI w 46 (I ((Q 46 + 1 : Nat) : Int))).2.2.1 44) (Q 46) (I (p : Nat)))) 45 (upd ((upA (upI w 46 (I ((Q 46 + 1 : Nat) : Int))) 44 (upd ((upI w 46 (I ((Q 46 + 1 : Nat) : Int))).2.2.1 44) (Q 46) (I (p : Nat)))).2.2.1 45) (Q 46) (-1))) 41 (upd ((upA (upA (upI w 46 (I ((Q 46 + 1 : Nat) : Int))) 44 (upd ((upI w 46 (I ((Q 46 + 1 : Nat) : Int))).2.2.1 44) (Q 46) (I (p : Nat)))) 45 (upd ((upA (upI w 46 (I ((Q 46 + 1 : Nat) : Int))) 44 (upd ((upI w 46 (I ((Q 46 + 1 : Nat) : Int))).2.2.1 44) (Q 46) (I (p : Nat)))).2.2.1 45) (Q 46) (-1))).2.2.1 41) (Q 46) x)).2.2.1 41 (Q 46) = x := by rw [upA_at, upd_at]
    have yi : (upA (upA (upA (upI w 46 (I ((Q 46 + 1 : Nat) : Int))) 44 (upd ((upI w 46 (I ((Q 46 + 1 : Nat) : Int))).2.2.1 44) (Q 46) (I (p : Nat)))) 45 (upd ((upA (upI w 46 (I ((Q 46 + 1 : Nat) : Int))) 44 (upd ((upI w 46 (I ((Q 46 + 1 : Nat) : Int))).2.2.1 44) (Q 46) (I (p : Nat)))).2.2.1 45) (Q 46) (-1))) 41 (upd ((upA (upA (upI w 46 (I ((Q 46 + 1 : Nat) : Int))) 44 (upd ((upI w 46 (I ((Q 46 + 1 : Nat) : Int))).2.2.1 44) (Q 46) (I (p : Nat)))) 45 (upd ((upA (upI w 46 (I ((Q 46 + 1 : Nat) : Int))) 44 (upd ((upI w 46 (I ((Q 46 + 1 : Nat) : Int))).2.2.1 44) (Q 46) (I (p : Nat)))).2.2.1 45) (Q 46) (-1))).2.2.1 41) (Q 46) x)).1 = (upI w 46 (I ((Q 46 + 1 : Nat) : Int))).1 := rfl
    have yj : (upA (upA (upA (upI w 46 (I ((Q 46 + 1 : Nat) : Int))) 44 (upd ((upI w 46 (I ((Q 46 + 1 : Nat) : Int))).2.2.1 44) (Q 46) (I (p : Nat)))) 45 (upd ((upA (upI w 46 (I ((Q 46 + 1 : Nat) : Int))) 44 (upd ((upI w 46 (I ((Q 46 + 1 : Nat) : Int))).2.2.1 44) (Q 46) (I (p : Nat)))).2.2.1 45) (Q 46) (-1))) 41 (upd ((upA (upA (upI w 46 (I ((Q 46 + 1 : Nat) : Int))) 44 (upd ((upI w 46 (I ((Q 46 + 1 : Nat) : Int))).2.2.1 44) (Q 46) (I (p : Nat)))) 45 (upd ((upA (upI w 46 (I ((Q 46 + 1 : Nat) : Int))) 44 (upd ((upI w 46 (I ((Q 46 + 1 : Nat) : Int))).2.2.1 44) (Q 46) (I (p : Nat)))).2.2.1 45) (Q 46) (-1))).2.2.1 41) (Q 46) x)).2.2.2 = w.2.2.2 := rfl
    generalize upA (upA (upA (upI w 46 (I ((Q 46 + 1 : Nat) : Int))) 44 (upd ((upI w 46 (I ((Q 46 + 1 : Nat) : Int))).2.2.1 44) (Q 46) (I (p : Nat)))) 45 (upd ((upA (upI w 46 (I ((Q 46 + 1 : Nat) : Int))) 44 (upd ((upI w 46 (I ((Q 46 + 1 : Nat) : Int))).2.2.1 44) (Q 46) (I (p : Nat)))).2.2.1 45) (Q 46) (-1))) 41 (upd ((upA (upA (upI w 46 (I ((Q 46 + 1 : Nat) : Int))) 44 (upd ((upI w 46 (I ((Q 46 + 1 : Nat) : Int))).2.2.1 44) (Q 46) (I (p : Nat)))) 45 (upd ((upA (upI w 46 (I ((Q 46 + 1 : Nat) : Int))) 44 (upd ((upI w 46 (I ((Q 46 + 1 : Nat) : Int))).2.2.1 44) (Q 46) (I (p : Nat)))).2.2.1 45) (Q 46) (-1))).2.2.1 41) (Q 46) x) = V at y1 hQ y44 y45 y41 yi yj
    have vi : ∀ k, k ≠ 46 → V.1 k = w.1 k := fun k hk => by rw [yi, upI_ne hk]
    have V65 : V.1 65 = I (t.length : Nat) := (vi 65 (by decide)).trans h65
    have V60 : V.2.2.1 60 t.length = I (e.1.length : Nat) := (y1 60 _ (Or.inl (by decide))).trans h60
    rw [V65, i_nt2 (p := t.length) (by omega), V60]
    refine r_ck (fun _ => r_lt ?_)
    refine h V hk ⟨?_, fun k hk => ?_⟩ hQ yj y1 y44 y45 (by rw [y41, hx]) vi
    · rw [qst_no (by decide)]
      exact PRS_x hR.1 (fun k hk => vi k (by rintro rfl; revert hk; decide)) (fun k hk => funext (fun n => y1 k n (Or.inl (by omega)))) ((vi 69 (by decide)).trans h69)
    · by_cases z : k = 46
      · subst z
        rw [yi, upI_at, qst_at]
        exact ⟨rfl, by omega⟩
      · rw [qst_no z, vi k z]; exact hR.2 k hk
  refine r_br (fun z => go 1 (by rw [if_pos (of_decide_eq_true z)])) (fun z => go 0 (by rw [if_neg (of_decide_eq_false z)]))
end
