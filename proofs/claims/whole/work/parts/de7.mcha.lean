/-! count() answers alike; read() leaves what goes together -/
set_option maxRecDepth 100000
section
variable {T : TYc} {Fv Fv' : Int64 → Int64 → Prop} {P P' : Int64 → Prop} {AN N PR : Nat} {m w m2 w2 : MS} {u : CS} {c : Nat → Nat} {r s v1 : Int32} {x : Int}
theorem FQm_rf : FQm m m := FR.rf
theorem FQw_3 : FQw w (wi w 3 x) := FR.wi FR.rf (by simp)
theorem FQw_3u {y : Int32} : FQw w (upI w 3 y) := by
  have : upI w 3 y = wi w 3 y.toInt := by rw [← wi_e, ← I_of y]
  rw [this]
  exact FQw_3
/-- behind a call that goes on -/
theorem TXr_b (h : TXr m w) (tb : TBz m2 w2) (k : KPS m m2) (e52 : w2.1 52 = w.1 52) (e14 : w2.1 14 = w.1 14) (e9 : w2.1 9 = w.1 9) (e13 : w2.2.2.1 13 = w.2.2.1 13) : TXr m2 w2 := by
  obtain ⟨t1, t2, ⟨t3, t4, t5⟩, t6, -⟩ := h
  have a13 : ∀ j, A w2 13 j = A w 13 j := fun j => by show (w2.2.2.1 13 j).toInt = _; rw [e13]; rfl
  have f14 : F w2 14 = F w 14 := congrArg Int32.toInt e14
  refine ⟨tb.1, ?_, ⟨?_, by rw [f14]; exact t4, fun j hj => by rw [a13]; exact t5 j hj⟩, by rw [k.1 85 (by decide), e9]; exact t6, tb.2.2.2⟩
  · rw [show F m2 442 = F m 442 from congrArg Int32.toInt (k.1 442 (by decide)), show F w2 52 = F w 52 from congrArg Int32.toInt e52]
    exact t2
  · unfold ATM at t3 ⊢
    rw [f14]
    exact ⟨t3.1, t3.2.1, fun k hk => by rw [a13, a13]; exact t3.2.2 k hk⟩
theorem FI_eq {a b : MS} {j k : Nat} (h : F a j = F b k) : a.1 j = b.1 k := Int32.toInt_inj.mp h
/-- count() -/
theorem count_e (h : MCH m w) (z : RZf m w) : PP (fun m2 r w2 s => (m2 = m ∧ w2 = upI w 3 0) ∧ r = s) (hm_H_count N m v1) (fm_M_count N w v1) := by
  have e10 : decide (m.1 10 = 0) = decide (w.1 86 = 0) := by
    rcases z.2.2.2.2 with ⟨a, b⟩ | ⟨a, b, -⟩
    · rw [a, b]
    · rw [a, b]
  have tx : w.1 86 ≠ 0 → TXr m w := fun q => h.1 (fun e => q (by rw [I_F' e]; rfl))
  show PP _ (hb_H_count_0 N () m v1) (fb_M_count_0 N () w v1)
  unfold hb_H_count_0 hb_H_count_70 hb_H_count_89 hb_H_count_108 fb_M_count_0 fb_M_count_71 fb_M_count_87 fb_M_count_103 fb_M_count_124 fb_M_count_140 fb_M_count_156 fb_M_count_172 fb_M_count_188
  refine r_lt ?_
  have wi3 : ∀ k, k ≠ 3 → (upI w 3 0).1 k = w.1 k := fun k hk => upI_ne hk
  rw [wi3 86 (by decide), wi3 9 (by decide), wi3 52 (by decide), wi3 14 (by decide), wi3 5 (by decide), wi3 87 (by decide), wi3 118 (by decide), wi3 128 (by decide), wi3 119 (by decide), wi3 120 (by decide), wi3 121 (by decide), e10]
  have ed : ∀ {a b : Int32}, a = b → PP (fun m2 r w2 s => (m2 = m ∧ w2 = upI w 3 0) ∧ r = s) (some (m, a)) (some (upI w 3 0, b)) := fun e => pp_end ⟨⟨rfl, rfl⟩, e⟩
  -- numbers of a text
  have tn : ∀ {a b : Int32}, (TXr m w → a = b) → PP (fun m2 r w2 s => (m2 = m ∧ w2 = upI w 3 0) ∧ r = s) (br (decide (w.1 86 = 0)) (some (m, 0)) (some (m, a))) (br (decide (w.1 86 = 0)) (some (upI w 3 0, 0)) (some (upI w 3 0, b))) := fun {a b} e => by
    by_cases q : w.1 86 = 0
    · rw [decide_eq_true q, br_t, br_t]; exact ed rfl
    · rw [decide_eq_false q, br_f, br_f]; exact ed (e (tx q))
  -- numbers of a run
  have rn : ∀ {a b : Int32}, (NBG m → a = 0) → (BGN m w → a = b) → PP (fun m2 r w2 s => (m2 = m ∧ w2 = upI w 3 0) ∧ r = s) (some (m, a)) (br (decide (w.1 87 = 0)) (some (upI w 3 0, 0)) (some (upI w 3 0, b))) := fun {a b} e1 e2 => by
    rcases h.2 with ⟨q, q2⟩ | ⟨q, -, -, -, q2⟩
    · rw [decide_eq_true (show w.1 87 = 0 by rw [I_F' q]; rfl), br_t]; exact ed (e1 q2)
    · rw [decide_eq_false (fun e => q (by unfold F; rw [e]; rfl)), br_f]; exact ed (e2 q2)
  have st : ∀ {b : Bool} {p1 q1 : Option (MS × Int32)} {p2 q2 : Option (MS × Int32)}, PP (fun m2 r w2 s => (m2 = m ∧ w2 = upI w 3 0) ∧ r = s) p1 p2 → PP (fun m2 r w2 s => (m2 = m ∧ w2 = upI w 3 0) ∧ r = s) q1 q2 → PP (fun m2 r w2 s => (m2 = m ∧ w2 = upI w 3 0) ∧ r = s) (br b p1 q1) (br b p2 q2) := fun {b p1 q1 p2 q2} h1 h2 => by
    cases b
    · exact h2
    · exact h1
  have b118 : BGN m w → m.1 942 = w.1 118 := fun ⟨T, Fv, P, PR, Fv', AN, TT, CC, ND, CN, PN, SN, UN, FN, h1, h2, h3, h4, h5⟩ => FI_eq (h1.1.1.1.1.trans h3.1.1.1.symm)
  have bt : BGN m w → TBz m w := fun ⟨T, Fv, P, PR, Fv', AN, TT, CC, ND, CN, PN, SN, UN, FN, h1, h2, h3, h4, h5⟩ => h5
  refine st (tn (fun t => t.2.2.2.1)) (st (tn (fun t => FI_eq t.2.1)) (st (tn (fun t => ?_)) (st (ed (FI_eq z.1)) (st (rn (fun n => n.1) b118) (st (rn (fun n => n.2.2.2.2.2) (fun b => (bt b).2.1.1)) (st (rn (fun n => n.2.2.2.2.1) (fun b => (bt b).2.2.1.2.2)) (st (rn (fun n => n.2.2.1) (fun b => (bt b).2.2.1.1.1)) (st (rn (fun n => n.2.2.2.1) (fun b => (bt b).2.2.1.2.1)) (ed rfl)))))))))
  obtain ⟨fa, na, a⟩ := t.2.2.2.2
  exact a.1.1.trans a.2.1.1.symm
theorem clr_n : PK (fun v (_ : Unit) => NBG v) (hm_Wl_clearAll N m) := by
  unfold hm_Wl_clearAll hb_Wl_clearAll_0
  exact pk_lt (pk_lt (pk_lt (pk_lt (pk_lt (pk_lt (pk_lt (pk_lt (pk_lt (pk_some ⟨rfl, rfl, rfl, rfl, rfl, rfl⟩)))))))))
theorem read_nb : PK (fun v (_ : Int32) => NBG v) (hm_H_read N m) := by
  have e27 : ∀ {w : MS} {r : Int32}, PK (fun v (_ : Int32) => NBG v) (hb_H_read_27 N () w r) := fun {w r} => by
    unfold hb_H_read_27 hb_H_read_45
    exact pk_lt (pk_br (fun _ => pk_ck (fun _ => pk_lt (pk_bnd (pk_mo clr_n (fun v _ hv => pk_some hv))))) (fun _ => pk_ck (fun _ => pk_lt (pk_bnd (pk_mo clr_n (fun v _ hv => pk_some hv))))))
  unfold hm_H_read hb_H_read_0
  exact pk_bnd (fun _ _ _ => pk_bnd (fun _ _ _ => pk_br (fun _ => pk_bnd (fun _ _ _ => e27)) (fun _ => e27)))
/-- read() -/
theorem read_mch (hN : 1000000000000000 ≤ N) (R : RP none c m u) (i1 : INVc m) (i2 : INV w) (z : RZf m w) (ec : hm_H_read N m = some (m2, r)) (ew : fm_M_read N w = some (w2, s)) (h87 : F w2 87 = 0) : MCH m2 w2 := by
  refine ⟨fun q => ?_, Or.inl ⟨h87, read_nb m2 r ec⟩⟩
  rcases (read_z hN R i1 i2 z ec ew).2.2.2.2 with ⟨a, b⟩ | ⟨a, b, -, at'⟩
  · exact absurd (show F w2 86 = 0 by unfold F; rw [b]; rfl) q
  · obtain ⟨t1, t2, t3, t4⟩ := read_t hN R i1 i2 z ec ew a
    exact ⟨t1, t2, t3, t4, at'⟩
end
