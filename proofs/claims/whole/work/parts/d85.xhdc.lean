/-! a CHOICE, both: its GUARD -/
set_option maxRecDepth 100000
section
variable {α β : Type} {m0 w0 m w m2 w2 m3 w3 v u w1 mS wS V : MS} {K nm Nk W W2 : Nat → Nat} {N T D d o a a0 b b0 c cm cm0 cm2 cm3 q q0 r s lo lo0 mid hi i j f f2 n k kk kd p p2 σ tk x xa xb xc xd gx kg M m1 lv y kf : Nat} {Q Q0 Q2 Q3 Q4 : Nat → Nat} {sc sc0 sc2 sc3 t t2 : SCT} {e e2 : List Nat × List Nat × Nat} {g g2 lst l2 : Bool} {L L1 L2 S : List Nat} {l : List Int32} {idc fof cvr : Int → Int → Int} {z : Unit} {rt v1 v2 v3 v4 v5 x2 x3 x4 t4 t5 xw : Int32} {fc : MS → Int32 → Option (MS × α)} {RR : MS → α → MS → Int32 → Prop} {G : MS → Int32 → Int32 → Int32 → Int32 → Int32 → Option (MS × Int32)}
/-- a part without a PATTERN -/
theorem hdg_c (c : CTZ m0 w0 K T nm Nk) (IE : HXE N m0 w0 K T nm Nk fof cvr f) (hn : n ≤ 8015) (h18 : A m0 18 n = 0) (h19 : A m0 19 n = ((gx : Nat) : Int)) (hw : RWcK m0 1 26 (XPcK m0 f o 3) kg gx lo mid xa xd q s) (hxd : xd ≤ 8015) (hs4 : s ≤ 400) (k38 : K mid = 38) (hmT : mid < T) (hC : XCS m0 nm m a cm sc false) (hR : XRS w0 T w lo Q sc) (hq : Q 56 = q) (htot : tot sc + (mid - lo) ≤ 4000 ∧ sc.length ≤ o + 1)
    (hh : ∀ m5 w5 b cm2 Q2 sc2 fs v8, XTF m0 w0 K T nm Nk false [] lo (mid + 1) a b cm cm2 q s Q Q2 sc sc2 m w m5 w5 → HKc m5 fs v8 → (∀ h, h ∈ fs → a ≤ h ∧ h < b) → (Q 46 < Q2 46 ∧ Q 46 < 16000 ∧ w5.2.2.1 45 (Q 46) = -1 ∧ w5.2.2.1 43 (Q 46) = I (Q2 32 : Nat)) → HDG w0 nm fof cvr 2 a b cm2 q s (Q 46) Q Q2 sc sc2 m5 w5 fs → PP RR (fc m5 v8) (kpC N (krc_M_behind N (d + 1)) G w5 1 x2 x3 x4 (I (Q 46 : Nat)) (I ((hdS sc).1.length : Nat)))) : PP RR (bnd (jm_Cm_tries N (jrc_Cm_fun N D) m v1 (I (n : Nat))) fc) (kb_M_parts0_19 N (krc_M_behind N (d + 1)) G w 1 x2 x3 x4 1) := by
  have tt4 := c.2.1.1.1
  obtain ⟨e, t, rfl⟩ := PRS_ne hR.1
  have hw1 := (RW_hdK (XP_bdK f o 3) hw).1
  unfold HDc at hw1
  refine pt_beg hR (fun V k16 hV hQV hVJ hVr hV44 hV45 hV41 hVi => ?_)
  rw [show decide ((1 : Int32) = 0) = false from rfl, br_f]
  have q46 : ∀ k, k ≠ 46 → qst Q 46 (Q 46 + 1) k = Q k := fun k hk => qst_no hk
  have X0 : XTF m0 w0 K T nm Nk false [] lo lo a a cm cm q q Q (qst Q 46 (Q 46 + 1)) (e :: t) (e :: t) m w m V := XTF_st hC hq (by decide) (by omega) hV hQV
  have e46 : (qst Q 46 (Q 46 + 1)) 46 = Q 46 + 1 := qst_at
  have e32 : (qst Q 46 (Q 46 + 1)) 32 = Q 32 := q46 32 (by decide)
  have e56 : (qst Q 46 (Q 46 + 1)) 56 = q := by rw [q46 56 (by decide)]; exact hq
  have lk : (hdS (e :: t)).1.length = e.1.length := rfl
  rw [lk] at hh
  refine hd_no (XCS_fr hC) hn h18 ?_
  refine rd_40c (by omega) (by decide) (fun V2 hV2 => ?_)
  have X2 : XTF m0 w0 K T nm Nk false [] lo lo a a cm cm q q Q (qst Q 46 (Q 46 + 1)) (e :: t) (e :: t) m w m V2 := W46_rw X0 hV2 (by omega) (Nat.le_refl _)
  have hR2 := X2.2.2.1.1
  have V245 : V2.2.2.1 45 (Q 46) = -1 := by
    rw [hV2.2.2.1 45 _ (Or.inl (by decide))]
    exact hV45
  refine gd_all c IE hw hxd hs4 ⟨by rw [k38]; exact ⟨rfl, by decide, by decide, by decide⟩, by rw [k38]; decide, by omega⟩ hC hR2 e56 (by omega) hn h19 (fun m6 w6 b6 cm6 Q6 sc6 hG same hab6 hwd6 hcd => ?_)
  have X4 := XTF_tr X2 hG
  refine rd_43 c X4 ⟨Nat.le_refl _, by omega⟩ hmT (fun V3 X3 hV3J hV3r hV342 hV343 => ?_)
  rw [e32] at hV342
  have le6 := hG.2.2.2.2.2.2.1.2.1
  have l46 := le6 46 (by decide)
  rw [e46] at l46
  have b64 : b6 ≤ 23990 := hG.2.1.1.2.2.1.2.2
  have rk6 : ∀ k y, grp k ≠ 0 → y < (qst Q 46 (Q 46 + 1)) (grp k) → w6.2.2.1 k y = V2.2.2.1 k y := fun k y k1 k2 => hG.2.2.2.2.2.2.1.1.2.1 k y k1 k2
  refine hh m6 V3 b6 cm6 Q6 sc6 [a + 2] _ X3 ⟨rfl, ⟨by omega, by omega⟩, fun h' hm => (by cases hm), hwd6.2.2⟩ (fun h hm => by
    have : h = a + 2 := by simpa using hm
    omega) ⟨by omega, k16, by rw [hV3r 45 _ (Or.inl (by decide)), rk6 45 _ (by decide) (by show Q 46 < (qst Q 46 (Q 46 + 1)) 46; omega)]; exact V245, hV343⟩ (fun C P R J H lst fl scn fi hx h0 hhk => ?_)
  have sO : Onm nm sc6 = Onm nm (e :: t) := by unfold Onm; rw [same]
  have nf : ∀ j, j ≠ a + 2 → j ∉ [a + 2] := fun j j1 y => j1 (by simpa using y)
  have c21 := C_of fi (j := a) ⟨by omega, by omega⟩ (nf _ (by omega)) hwd6.1
  have cl := C_of fi (j := a + 1) ⟨by omega, by omega⟩ (nf _ (by omega)) hwd6.2.1
  rw [Int32.sub_self] at cl
  have R42 := FNx_R fi (j := 42) (k := Q 46) (by omega) ⟨Nat.le_refl _, by omega⟩
  have fd : FNd w0 fof cvr C P R J m6 w6 (a + 3) b6 q s (qst Q 46 (Q 46 + 1)) Q6 lst [] := by
    refine FNx_sub fi ⟨by omega, Nat.le_refl _⟩ ⟨Nat.le_refl _, Nat.le_refl _⟩ X2.2.2.2.2.2.2.1.2.1 QLE_rf (fun _ _ _ => rfl) (fun _ _ _ _ _ _ => rfl) ⟨fun k y k1 k2 k3 k4 k5 => hV3r k y ?_, fun y _ _ => by rw [hV3J]⟩ (fun y y1 y2 => ?_) (fun j hj => Or.inl ?_) (fun j hj => Or.inl ?_)
    · by_cases z : k = 42 ∨ k = 43
      · have : (qst Q 46 (Q 46 + 1)) 46 ≤ y := by rcases z with rfl | rfl <;> exact k4
        rw [e46] at this
        exact Or.inr (by omega)
      · exact Or.inl (by omega)
    · have e30 : A V3 30 y = A w6 30 y := congrArg Int32.toInt (hV3r 30 y (Or.inl (by decide)))
      rw [e30]
    · have : j = a + 2 := by simpa using hj
      omega
    · have : j = Q 46 := by simpa using hj
      rw [e46]; omega
  obtain ⟨g1, g2⟩ := hcd C P R J H lst fd hx
  refine ⟨g1, fun hz hc => ?_⟩
  rw [sO] at hc
  have r32 := g2 2 (Q 46) scn (by rw [sO]; exact hc)
  rw [e32] at r32
  refine zr_if (g := Q 32) (fl := fl) (by omega) (by omega) rfl ?_ c21 cl (hhk _ (by simp)) h0 hz r32
  rw [R42]
  show (V3.2.2.1 42 (Q 46)).toInt = _
  rw [hV342]
  exact I_ti (by omega) (by have := (XRS_q hR2).2; omega)
end
