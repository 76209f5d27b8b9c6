/-! what compiling a GUARD does to names, there alone -/
set_option maxRecDepth 100000
section
variable {α β : Type} {m0 w0 m w m2 w2 m3 w3 m4 v u w1 mS wS : MS} {K nm Nk W W2 : Nat → Nat} {N T D d o a a0 a2 b b0 c cm cm0 cm2 cm3 cm4 q q0 r s lo lo0 mid hi i j f f2 n n1 k k2 kk KK p p2 σ tk x xa xb xc mm M m1 lv y cl l2 : Nat} {sc sc0 sc2 sc3 t t2 : SCT} {e e2 e3 e4 : List Nat × List Nat × Nat} {g g2 own lst : Bool} {idc fof cvr : Int → Int → Int} {v4 v5 xw : Int32} {RU : MS → Int32 → MS → β → Prop} {B : Option (MS × β)}
/-- units of a GUARD -/
theorem u_grd (IE : HUE N m0 T nm f) (hxb : xb ≤ 8015) (hr4 : r ≤ 400) (hiT : hi ≤ T) (htot : tot (e :: t) + KK ≤ 4000 ∧ (e :: t).length ≤ o + 1) (hh : ∀ m3 c cm3 e3, UXQ m0 nm t g KK m a cm e m3 c cm3 e3 → PP RU (some (upI m3 712 v5, v4)) B) : ∀ (k n lo xa q M kk : Nat) (m2 : MS) (b cm2 : Nat) (e2 : List Nat × List Nat × Nat), RWcK m0 1 26 (XPcK m0 f o 3) k n lo hi xa xb q r → UXQ m0 nm t g kk m a cm e m2 b cm2 e2 → kk + (hi - lo) ≤ KK → PP RU ((jg_Cm_tries N (jrc_Cm_fun N D) M).2 m2 v4 v5 (I (n : Nat))) B
  | 0, n, lo, xa, q, M, kk, m2, b, cm2, e2, h, hX, hk => h.elim
  | k + 1, n, lo, xa, q, M, kk, m2, b, cm2, e2, h, hX, hk => by
    obtain ⟨mid, c1, s, hE, h⟩ := h
    have hd := XP_bdK _ _ _ _ _ _ _ _ _ _ hE
    unfold HDc at hd
    have hms : mid ≤ hi ∧ c1 ≤ xb ∧ s ≤ r := by
      rcases h with ⟨-, -, rfl, rfl, rfl⟩ | ⟨⟨-, k27⟩, n2, -, hw⟩
      · exact ⟨Nat.le_refl _, Nat.le_refl _, Nat.le_refl _⟩
      · have := (RW_hdK (XP_bdK _ _ _) hw).1
        unfold HDc at this
        exact ⟨by omega, by omega, by omega⟩
    have el : (e2 :: t).length = (e :: t).length := rfl
    have tt := hX.2.2.2.1
    have o1 : 1 ≤ n ∧ n ≤ 8015 ∧ c1 ≤ 8015 ∧ s ≤ 400 ∧ mid ≤ T ∧ tot (e2 :: t) + (mid - lo) ≤ 4000 := by clear h; exact ⟨by omega, by omega, by omega, by omega, by omega, by omega⟩
    cases M with
    | zero => exact pp_nl
    | succ M =>
    show PP RU (jb_Cm_tries_181 N (jrc_Cm_fun N D) (jg_Cm_tries N (jrc_Cm_fun N D) M) m2 v4 v5 (I (n : Nat))) B
    unfold jb_Cm_tries_181
    rw [decide_eq_false (fun z => by
      have := (I_eq (x := ((n : Nat) : Int)) (y := 0) (by omega) (by omega) (by decide) (by decide)).mp z
      omega), br_f]
    refine l_bnd (pk_mo (IE D o 3 n lo mid xa c1 q s m2 b cm2 e2 t g false hE o1.2.2.1 o1.2.2.2.1 o1.2.2.2.2.1 hX.1 hX.2.1 ⟨o1.2.2.2.2.2, by rw [el]; exact htot.2⟩) (fun m3 z hz => ?_))
    obtain ⟨b3, cm3, e3, h3⟩ := hz
    refine u_put (UXQ_tr hX h3) (fun _ hX3 => l_ck (fun _ => ?_))
    have fr3 := XCS_fr hX3.1
    rw [i_nt2 (show n ≤ 100000 by omega)]
    rcases h with ⟨rfl, h21, rfl, rfl, rfl⟩ | ⟨⟨hk1, hk27⟩, n2, h21, hw⟩
    · rw [tre fr3 (by decide) h21]
      cases M with
      | zero => exact pp_nl
      | succ M =>
      show PP RU (jb_Cm_tries_181 N (jrc_Cm_fun N D) (jg_Cm_tries N (jrc_Cm_fun N D) M) _ v4 v5 (I 0)) B
      unfold jb_Cm_tries_181
      rw [show decide (I 0 = (0 : Int32)) = true from rfl, br_t]
      refine u_put hX3 (fun _ hX4 => l_ck (fun _ => ?_))
      rw [lt_e]
      exact hh _ _ cm3 e3 (UXQ_mo hX4 (by omega))
    · have hw1 := (RW_hdK (XP_bdK _ _ _) hw).1
      unfold HDc at hw1
      rw [tre fr3 (by decide) h21]
      exact u_grd IE hxb hr4 hiT htot hh k n2 (mid + 1) c1 s M (kk + (mid - lo)) _ _ cm3 e3 hw hX3 (by omega)
end
