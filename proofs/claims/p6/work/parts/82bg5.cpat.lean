set_option maxRecDepth 100000
section
variable {m v u : MS} {nm : Nat → Nat} {sc t : SCT} {e : List Nat × List Nat × Nat} {s x y N i f tok cm : Nat}
theorem upd_id {g : Nat → Int32} {y : Int32} (h : g i = y) : upd g i y = g := by
  funext j
  by_cases e : j = i
  · rw [e, upd_at, h]
  · exact upd_no e
theorem upd_tw {g : Nat → Int32} {a b : Int32} : upd (upd g i a) i b = upd g i b := by
  funext j
  by_cases e : j = i
  · rw [e, upd_at, upd_at]
  · rw [upd_no e, upd_no e, upd_no e]
theorem rf_n (h : fnb x (e :: t) = false) : rfP false x (e :: t) = bnS x (e :: t) ∧ rfX false x (e :: t) = e.1.length + 1 ∧ rfL false x (e :: t) = 32 := by
  refine ⟨?_, ?_, ?_⟩
  · show (if false = true then (if e.1.contains x then e :: t else bnS x (e :: t)) else (if fnb x (e :: t) then hld x (e :: t) else bnS x (e :: t))) = _
    rw [h]; rfl
  · show (if false = true then (if e.1.contains x then 0 else e.1.length + 1) else (if fnb x (e :: t) then 0 else e.1.length + 1)) = _
    rw [h]; rfl
  · show (if false = true then (if e.1.contains x then t.length else 32) else (if fnb x (e :: t) then lvx x (e :: t) else 32)) = _
    rw [h]; rfl
theorem rf_y (h : fnb x (e :: t) = true) : rfP false x (e :: t) = hld x (e :: t) ∧ rfX false x (e :: t) = 0 ∧ rfL false x (e :: t) = lvx x (e :: t) := by
  refine ⟨?_, ?_, ?_⟩
  · show (if false = true then (if e.1.contains x then e :: t else bnS x (e :: t)) else (if fnb x (e :: t) then hld x (e :: t) else bnS x (e :: t))) = _
    rw [h]; rfl
  · show (if false = true then (if e.1.contains x then 0 else e.1.length + 1) else (if fnb x (e :: t) then 0 else e.1.length + 1)) = _
    rw [h]; rfl
  · show (if false = true then (if e.1.contains x then t.length else 32) else (if fnb x (e :: t) then lvx x (e :: t) else 32)) = _
    rw [h]; rfl
theorem ro_n (h : e.1.contains x = false) : rfP true x (e :: t) = bnS x (e :: t) ∧ rfX true x (e :: t) = e.1.length + 1 ∧ rfL true x (e :: t) = 32 := by
  refine ⟨?_, ?_, ?_⟩
  · show (if true = true then (if e.1.contains x then e :: t else bnS x (e :: t)) else (if fnb x (e :: t) then hld x (e :: t) else bnS x (e :: t))) = _
    rw [h]; rfl
  · show (if true = true then (if e.1.contains x then 0 else e.1.length + 1) else (if fnb x (e :: t) then 0 else e.1.length + 1)) = _
    rw [h]; rfl
  · show (if true = true then (if e.1.contains x then t.length else 32) else (if fnb x (e :: t) then lvx x (e :: t) else 32)) = _
    rw [h]; rfl
theorem ro_y (h : e.1.contains x = true) : rfP true x (e :: t) = e :: t ∧ rfX true x (e :: t) = 0 ∧ rfL true x (e :: t) = t.length := by
  refine ⟨?_, ?_, ?_⟩
  · show (if true = true then (if e.1.contains x then e :: t else bnS x (e :: t)) else (if fnb x (e :: t) then hld x (e :: t) else bnS x (e :: t))) = _
    rw [h]; rfl
  · show (if true = true then (if e.1.contains x then 0 else e.1.length + 1) else (if fnb x (e :: t) then 0 else e.1.length + 1)) = _
    rw [h]; rfl
  · show (if true = true then (if e.1.contains x then t.length else 32) else (if fnb x (e :: t) then lvx x (e :: t) else 32)) = _
    rw [h]; rfl
def NPQ (nm : Nat → Nat) (s : Nat) (sc2 : SCT) (cm2 : Nat) (g : Nat → Int32) (m v : MS) : Prop := CNs v nm sc2 ∧ v.2.2.1 41 = upd (m.2.2.1 41) s (I (cm2 : Nat)) ∧ v.2.2.1 42 = g ∧ NFR m v
theorem NPQ_kn {sc2 : SCT} {cm2 : Nat} {g : Nat → Int32} (q : NPQ nm s sc2 cm2 g m v) (h : Knc v u) : NPQ nm s sc2 cm2 g m u := ⟨CNs_kn q.1 h, by rw [h.2 _ (by decide)]; exact q.2.1, by rw [h.2 _ (by decide)]; exact q.2.2.1, NFR_tr q.2.2.2 (NFR_kn h)⟩
theorem put2 {sc2 : SCT} {cm2 : Nat} {g : Nat → Int32} {a b : Int32} {f : MS → Unit → Option (MS × Unit)} {Q : MS → Unit → Prop} (q : NPQ nm s sc2 cm2 g m v) (k : ∀ u, NPQ nm s sc2 cm2 g m u → PK Q (f u ())) : PK Q (bnd (hm_Co_put N v a) (fun u3 _ => bnd (hm_Co_put N u3 b) (fun u6 r6 => f u6 r6))) := by
  refine pk_bnd (fun w1 r1 e1 => pk_bnd (fun w2 r2 e2 => ?_))
  exact k w2 (NPQ_kn (NPQ_kn q (yn_hm_Co_put (u0 := v) Kn_rf w1 r1 e1)) (yn_hm_Co_put (u0 := w1) Kn_rf w2 r2 e2))
theorem nIP_c {own : Bool} (hn : NMJ nm) (c : CNs m nm (e :: t)) (ok : SOK (e :: t)) (hx : x < 1400) (hx0 : nm x ≠ 0) (ht : tok ≤ 4001) (h4 : tot (e :: t) < 4000) (hm : m.2.2.1 41 t.length = I (cm : Nat)) (hc : cm ≤ 4000) (ho : decide (m.1 713 = 0) = !own) : PK (fun v _ => NPQ nm t.length (rfP own x (e :: t)) (max cm (rfX own x (e :: t))) (upd (m.2.2.1 42) tok (I (rfL own x (e :: t) : Nat))) m v) (hm_Cm_nameInPattern N m (I (nm x : Nat)) (I (tok : Nat))) := by
  have c2 : 1 ≤ t.length + 1 ∧ t.length + 1 ≤ 27 := c.2.1
  have c1 : m.1 709 = I (t.length : Nat) := c.1
  unfold hm_Cm_nameInPattern hb_Cm_nameInPattern_0 hb_Cm_nameInPattern_92
  refine pk_ck (fun _ => pk_lt ?_)
  rw [tnI (n := tok) rfl (by omega), decide_eq_false (p := I (nm x : Nat) = 0) (fun z => hx0 (i_inj (b := 0) (by have := hn.2 x; omega) (by omega) z))]
  generalize hw : upA m 42 (upd (m.2.2.1 42) tok 32) = w
  have cw : CNs w nm (e :: t) := by rw [← hw]; exact CNs_42 c
  have w41 : w.2.2.1 41 = m.2.2.1 41 := by rw [← hw]; exact upA_no (by decide)
  have w42 : w.2.2.1 42 = upd (m.2.2.1 42) tok (I (32 : Nat)) := by rw [← hw]; exact upA_at
  have nw : NFR m w := by rw [← hw]; exact ⟨fun _ _ _ => rfl, fun k _ _ _ h => upA_no h⟩
  have w13 : w.1 713 = m.1 713 := by rw [← hw]; rfl
  show PK _ (br (decide (w.1 713 = 0)) (hb_Cm_nameInPattern_46 N () w (I (nm x : Nat)) (I (nm x : Nat)) (I (tok : Nat)) 0) (ck (inb (w.1 709) 32) (hb_Cm_nameInPattern_46 N () w (I (nm x : Nat)) (I (nm x : Nat)) (I (tok : Nat)) (w.2.2.1 40 (w.1 709).toNatClampNeg))))
  have same : ∀ {lv : Nat}, NPQ nm t.length (e :: t) cm (upd (m.2.2.1 42) tok (I (lv : Nat))) m (upA w 42 (upd (w.2.2.1 42) tok (I (lv : Nat)))) := fun {lv} => ⟨CNs_42 cw, by rw [upA_no (by decide), w41, upd_id hm], by rw [upA_at, w42, upd_tw], NFR_tr nw ⟨fun _ _ _ => rfl, fun k _ _ _ h => upA_no h⟩⟩
  have new : PK (fun v _ => NPQ nm t.length (bnS x (e :: t)) (max cm (e.1.length + 1)) (upd (m.2.2.1 42) tok (I (32 : Nat))) m v) (bnd (hm_Co_put N w 4) (fun u3 r3 => bnd (hm_Co_put N u3 (I (nm x : Nat))) (fun u6 r6 => bnd (hm_Cm_bind N u6 (I (nm x : Nat))) (fun u8 r8 => some (u8, ()))))) := by
    have q0 : NPQ nm t.length (e :: t) cm (upd (m.2.2.1 42) tok (I (32 : Nat))) m w := ⟨cw, by rw [w41, upd_id hm], w42, nw⟩
    refine put2 (N := N) q0 (f := fun u6 _ => bnd (hm_Cm_bind N u6 (I (nm x : Nat))) (fun u8 r8 => some (u8, ()))) (fun u6 q6 => ?_)
    have h41 : u6.2.2.1 41 t.length = I (cm : Nat) := by rw [q6.2.1, upd_at]
    refine pk_bnd (pk_mo (bind_c (N := N) (x := x) q6.1 h4 h41 hc) (fun u8 _ q8 => pk_some ⟨q8.1, ?_, ?_, NFR_tr q6.2.2.2 q8.2.2.2⟩))
    · rw [q8.2.1, q6.2.1, upd_tw]
    · rw [q8.2.2.1, q6.2.2.1]
  cases own with
  | false =>
    rw [w13, ho]
    show PK _ (hb_Cm_nameInPattern_46 N () w (I (nm x : Nat)) (I (nm x : Nat)) (I (tok : Nat)) 0)
    unfold hb_Cm_nameInPattern_46 hb_Cm_nameInPattern_92
    refine pk_bnd (pk_mo (isB_all (N := N) hn cw ok hx ht) (fun v r q => ?_))
    rcases q with ⟨q1, q2, q3⟩ | ⟨q1, q2, q3⟩
    · rw [decide_eq_true q1, q2]
      refine pk_mo new (fun v _ q => ?_)
      rw [(rf_n q3).1, (rf_n q3).2.1, (rf_n q3).2.2]
      exact q
    · rw [q1]
      show PK _ (bnd (hm_Co_put N v 3) (fun u10 r10 => bnd (hm_Co_put N u10 (I (nm x : Nat))) (fun u13 r13 => some (u13, ()))))
      rw [q3]
      refine put2 (N := N) same (f := fun u6 _ => some (u6, ())) (fun u6 q6 => pk_some ?_)
      rw [(rf_y q2).1, (rf_y q2).2.1, (rf_y q2).2.2]
      show NPQ nm t.length (hld x (e :: t)) (max cm 0) (upd (m.2.2.1 42) tok (I (lvx x (e :: t) : Nat))) m u6
      rw [Nat.max_eq_left (Nat.zero_le _)]
      exact ⟨CNs_hld q6.1, q6.2⟩
  | true =>
    rw [w13, ho]
    show PK _ (ck (inb (w.1 709) 32) (hb_Cm_nameInPattern_46 N () w (I (nm x : Nat)) (I (nm x : Nat)) (I (tok : Nat)) (w.2.2.1 40 (w.1 709).toNatClampNeg)))
    refine pk_ck (fun _ => ?_)
    have w9 : w.1 709 = I (t.length : Nat) := cw.1
    rw [w9, tnI (n := t.length) rfl (by omega), cw.2.2.2.2.1]
    unfold hb_Cm_nameInPattern_46 hb_Cm_nameInPattern_92
    refine pk_bnd (pk_mo (isB_own (N := N) hn cw ok hx ht) (fun v r q => ?_))
    rcases q with ⟨q1, q2, q3⟩ | ⟨q1, q2, q3⟩
    · rw [decide_eq_true q1, q2]
      refine pk_mo new (fun v _ q => ?_)
      have c0 : e.1.contains x = false := by simpa using q3
      rw [(ro_n c0).1, (ro_n c0).2.1, (ro_n c0).2.2]
      exact q
    · rw [q1]
      show PK _ (bnd (hm_Co_put N v 3) (fun u10 r10 => bnd (hm_Co_put N u10 (I (nm x : Nat))) (fun u13 r13 => some (u13, ()))))
      rw [q3]
      refine put2 (N := N) same (f := fun u6 _ => some (u6, ())) (fun u6 q6 => pk_some ?_)
      have c0 := List.contains_iff_mem.mpr q2
      rw [(ro_y c0).1, (ro_y c0).2.1, (ro_y c0).2.2]
      show NPQ nm t.length (e :: t) (max cm 0) (upd (m.2.2.1 42) tok (I (t.length : Nat))) m u6
      rw [Nat.max_eq_left (Nat.zero_le _)]
      exact q6
end
