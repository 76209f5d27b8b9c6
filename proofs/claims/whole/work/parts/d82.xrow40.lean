/-! a part's rows, here: 40, 42, 43 -/
set_option maxRecDepth 100000
section
variable {α β : Type} {m0 w0 m w u : MS} {N T d p k j i : Nat} {Q : Nat → Nat} {sc : SCT} {x v1 v2 v3 v4 v7 : Int32} {RP : MS → α → MS → Int32 → Prop} {B : Option (MS × α)} {G : MS → Int32 → Int32 → Int32 → Int32 → Int32 → Option (MS × Int32)}
/-- one of them is written -/
def W46 (w V : MS) (j k : Nat) (x : Int32) : Prop := V.1 = w.1 ∧ V.2.2.2 = w.2.2.2 ∧ (∀ i n, (i ≠ j ∨ n ≠ k) → V.2.2.1 i n = w.2.2.1 i n) ∧ V.2.2.1 j k = x
theorem w46_of : W46 w (upA w j (upd (w.2.2.1 j) k x)) j k x := ⟨rfl, rfl, fun i n h => by
  by_cases z : i = j
  · subst z
    rw [upA_at, upd_no (h.resolve_left (fun y => y rfl))]
  · rw [upA_no z], by rw [upA_at, upd_at]⟩
theorem W46_x (h : W46 w u j k x) (hR : XRS w0 T w p Q sc) (hj : 23 ≤ j ∧ j ≤ 58) : XRS w0 T u p Q sc := ⟨PRS_x hR.1 (fun i _ => by rw [h.1]) (fun i hi => funext (fun n => h.2.2.1 i n (Or.inl (by omega)))) (by rw [h.1]; exact hR.1.2.1.1), fun i hi => by rw [h.1]; exact hR.2 i hi⟩
/-- the PATTERN's row; on to the GUARD -/
theorem rd_40 (hk : k ≤ 16000) (h1 : v1 = 0) (h : ∀ V, W46 w V 40 k x → PP RP B (bnd (km_M_guard N (krc_M_behind N d) V) (fun u13 r13 => kb_M_parts0_127 N (krc_M_behind N (d + 1)) G u13 v1 v2 v3 v4 (I (k : Nat)) v7 42 (I (k : Nat)) r13))) : PP RP B (kb_M_parts0_105 N (krc_M_behind N (d + 1)) G w v1 v2 v3 v4 (I (k : Nat)) v7 40 (I (k : Nat)) x) := by
  unfold kb_M_parts0_105
  rw [i_nt2 (p := k) (by omega)]
  refine r_ck (fun _ => r_ck (fun _ => r_lt ?_))
  rw [decide_eq_true h1, br_t]
  exact h _ w46_of
/-- the same for a CHOICE -/
theorem rd_40c (hk : k ≤ 16000) (h1 : v1 ≠ 0) (h : ∀ V, W46 w V 40 k x → PP RP B (bnd (km_M_guardCode N (krc_M_behind N d) V) (fun u13 r13 => kb_M_parts0_127 N (krc_M_behind N (d + 1)) G u13 v1 v2 v3 v4 (I (k : Nat)) v7 42 (I (k : Nat)) r13))) : PP RP B (kb_M_parts0_105 N (krc_M_behind N (d + 1)) G w v1 v2 v3 v4 (I (k : Nat)) v7 40 (I (k : Nat)) x) := by
  unfold kb_M_parts0_105
  rw [i_nt2 (p := k) (by omega)]
  refine r_ck (fun _ => r_ck (fun _ => r_lt ?_))
  rw [decide_eq_false h1, br_f]
  exact h _ w46_of
end
