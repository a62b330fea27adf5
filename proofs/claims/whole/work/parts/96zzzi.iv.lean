section IV
variable {S S' : gb_S} {I I' I1 I2 : gb_FI} {J J' J1 J2 : gb_FJ}
/-- what is kept of the plain state beside the two relations -/
def gbV (S : gb_S) : Prop := (∀ b, b < 4 → gb_wl 0 0 (S.2.2.2.2.1 b)) ∧ ∀ p ∈ S.2.2.2.2.2.1, gso p
theorem gbV.kp (h : gbV S) (e1 : S'.2.2.2.2.1 = S.2.2.2.2.1) (e2 : S'.2.2.2.2.2.1 = S.2.2.2.2.2.1) : gbV S' := by
  unfold gbV
  rw [e1, e2]
  exact h
def gbR3 (S : gb_S) (I : gb_FI) (J : gb_FJ) : Prop := RX gCK S I J ∧ RM S I J ∧ gbV S
theorem RX.B16 (h : RX gCK S I J) (hv : gbV S) : ∀ b, b < 4 → (S.2.2.2.2.1 b).length ≤ 16 ∧ gb_wl 0 0 (S.2.2.2.2.1 b) := fun b hb => ⟨(h.2.2.2.2.1 b hb).1, hv.1 b hb⟩
theorem RX.B16p (h : RX gCK S I J) : ∀ b, b < 4 → (S.2.2.2.2.1 b).length ≤ 16 ∧ ∀ p ∈ S.2.2.2.2.1 b, gb_pOK p := fun b hb => ⟨(h.2.2.2.2.1 b hb).1, fun p hp => by
  obtain ⟨i, hi, e⟩ := List.getElem_of_mem hp
  exact ((h.2.2.2.2.1 b hb).2.2 i p (by rw [List.getElem?_eq_getElem hi, e])).1⟩
theorem RX.pl3 (h : RX gCK S I J) : ∀ q, S.2.2.2.2.2.2.2.2 = some q → q.1.length ≤ 3 ∧ ∀ (i j : Nat), q.1[i]? = some j → j < S.2.2.2.2.2.1.length := fun q hq => by
  have := h.2.2.2.2.2.2.2.2.1
  rw [hq] at this
  exact ⟨this.1, fun i j hj => (this.2.2.1 i j hj).1⟩
def gbTw {α : Type} (I : gb_FI) (J : gb_FJ) (f g : gb_H → Option (α × gb_H)) : Prop := ∃ v S2 I1 J1 I2 J2, f (gb_mk I J) = some (v, gb_mk I1 J1) ∧ g (gb_mk I1 J1) = some (v, gb_mk I2 J2) ∧ gbR3 S2 I2 J2
theorem gb_two {α : Type} {f g : gb_H → Option (α × gb_H)} {a : α × gb_S} (h : gbR3 S I J) (xo : xok gCK f I J a) (mo : ∀ I' J', RM S I' J' → mok g I' J' a) (hv : gbV a.2) : gbTw I J f g := by
  obtain ⟨I1, J1, s1, s2, s3⟩ := xo
  obtain ⟨I2, J2, t1, t2, t3⟩ := mo I1 J1 (h.2.1.keep s3)
  exact ⟨a.1, a.2, I1, J1, I2, J2, s1, t1, s2.keep t3, t2, hv⟩
theorem gb_brn {α : Type} [DecidableEq α] {f g : gb_H → Option (α × gb_H)} (K : gb_H → Option (Int32 × gb_H)) (h : gbTw I J f g) : ∃ S2 I2 J2, gbR3 S2 I2 J2 ∧ (gb_bd (f (gb_mk I J)) fun x h1 => gb_gd (gb_k h1 241 11) <| gb_bd (g h1) fun y h2 => if x = y then K h2 else some (0, h2)) = K (gb_mk I2 J2) := by
  obtain ⟨v, S2, I1, J1, I2, J2, s1, s2, s3⟩ := h
  refine ⟨S2, I2, J2, s3, ?_⟩
  rw [s1, gb_bd_s, gk241, gb_gd_t, s2, gb_bd_s, if_pos rfl]
theorem gs_grain (h : gbR3 S I J) (v : Int32) : gbTw I J (fnX10_grain 0 v) (fnX11_grain 241 v) := gb_two h (X_grain h.1 v) (fun _ _ m => M_grain m h.1.1.1 v) (h.2.2.kp (by unfold a_grain; (repeat' split) <;> rfl) (by unfold a_grain; (repeat' split) <;> rfl))
theorem gs_clear (h : gbR3 S I J) : gbTw I J (fnX10_clear 0) (fnX11_clear 241) := gb_two h (X_clear h.1) (fun _ _ m => M_clear m) (h.2.2.kp rfl rfl)
theorem gs_feed (h : gbR3 S I J) (v1 v2 v3 v4 v5 : Int32) : gbTw I J (fnX10_feed 0 v1 v2 v3 v4 v5) (fnX11_feed 241 v1 v2 v3 v4 v5) := gb_two h (X_feed h.1 v1 v2 v3 v4 v5) (fun _ _ m => M_feed m h.1.2.2.1.1 v1 v2 v3 v4 v5) (h.2.2.kp (by unfold a_feed; (repeat' split) <;> rfl) (by unfold a_feed; (repeat' split) <;> rfl))
theorem gs_end (h : gbR3 S I J) (v : Int32) : gbTw I J (fnX10_end 0 v) (fnX11_end 241 v) := gb_two h (X_end h.1 v) (fun _ _ m => M_end m h.1.2.2.1.1 v) (h.2.2.kp (by unfold a_end; (repeat' split) <;> rfl) (by unfold a_end; (repeat' split) <;> rfl))
theorem gs_bench (h : gbR3 S I J) (b : Int32) : gbTw I J (fnX10_bench 0 b) (fnX11_bench 241 b) := gb_two h (X_bench h.1 b) (fun _ _ m => M_bench ⟨h.1.2.2.1.1, h.1.2.2.1.2.1⟩ (fun q hq => (h.1.pl3 q hq).2) (fun b hb => (h.1.B16 h.2.2 b hb).1) m b) (by
  unfold a_bench
  split
  · split
    · exact h.2.2.kp rfl rfl
    · next ps e =>
      refine ⟨fun i hi => ?_, h.2.2.2⟩
      show gb_wl 0 0 (gb_ub S.2.2.2.2.1 b.toNatClampNeg ps i)
      unfold gb_ub
      split
      · exact (g_text_w e).2
      · exact h.2.2.1 i hi
  · exact h.2.2.kp rfl rfl)
theorem gs_shelf (h : gbR3 S I J) : gbTw I J (fnX10_shelf 0) (fnX11_shelf 241) := gb_two h (X_shelf h.1) (fun _ _ m => M_shelf ⟨h.1.2.2.1.1, h.1.2.2.1.2.1⟩ (fun q hq => (h.1.pl3 q hq).2) h.1.2.2.2.2.2.1.1 m) (by
  unfold a_shelf
  split
  · split
    · exact h.2.2.kp rfl rfl
    · next p e =>
      refine ⟨h.2.2.1, fun q hq => ?_⟩
      rcases List.mem_append.mp hq with z | z
      · exact h.2.2.2 q z
      · rw [List.mem_singleton.mp z]
        exact g_alone_e.2 p e
  · exact h.2.2.kp rfl rfl)
theorem gs_fault (h : gbR3 S I J) : gbTw I J (fnX10_fault 0) (fnX11_fault 241) := gb_two h (X_fault h.1) (fun _ _ m => M_fault m) h.2.2
theorem gs_deep (h : gbR3 S I J) (b : Int32) : gbTw I J (fnX10_deep 0 b) (fnX11_deep 241 b) := gb_two h (X_deep h.1 b) (fun _ _ m => M_deep h.1.1.1 h.1.B16p m b) (h.2.2.kp (by unfold a_deep; (repeat' split) <;> rfl) (by unfold a_deep; (repeat' split) <;> rfl))
theorem gs_way (h : gbR3 S I J) (b f t w : Int32) : gbTw I J (fnX10_way 0 b f t w) (fnX11_way 241 b f t w) := gb_two h (X_way h.1 h.2.2.1 b f t w) (fun _ _ m => M_way (h.1.B16 h.2.2) m b f t w) (h.2.2.kp (by unfold a_way; (repeat' split) <;> rfl) (by unfold a_way; (repeat' split) <;> rfl))
theorem gs_odds (h : gbR3 S I J) (b p0 p1 p2 p3 p4 c : Int32) : gbTw I J (fnX10_odds 0 b p0 p1 p2 p3 p4 c) (fnX11_odds 241 b p0 p1 p2 p3 p4 c) := gb_two h (X_odds h.1 h.2.2.1 b p0 p1 p2 p3 p4 c) (fun _ _ m => M_odds m h.1.1.2.1 h.1.1.1 (h.1.B16 h.2.2) b p0 p1 p2 p3 p4 c) (h.2.2.kp rfl rfl)
theorem gs_dark (h : gbR3 S I J) (p t : Int32) : gbTw I J (fnX10_dark 0 p t) (fnX11_dark 241 p t) := gb_two h (X_dark h.1 p t) (fun _ _ m => M_dark m p t) (h.2.2.kp (by unfold a_dark; (repeat' split) <;> rfl) (by unfold a_dark; (repeat' split) <;> rfl))
theorem gs_clicks (h : gbR3 S I J) (b t c : Int32) : gbTw I J (fnX10_clicks 0 b t c) (fnX11_clicks 241 b t c) := gb_two h (X_clicks h.1 h.2.2.1 b t c) (fun _ _ m => M_clicks m h.1.1.2.1 h.1.1.1 (h.1.B16 h.2.2) b t c) (h.2.2.kp rfl rfl)
theorem gs_run (h : gbR3 S I J) (b t d : Int32) : gbTw I J (fnX10_run 0 b t d) (fnX11_run 241 b t d) := gb_two h (X_run h.1 b t d) (fun _ _ m => M_run m b t d) (h.2.2.kp (by unfold a_run; (repeat' split) <;> rfl) (by unfold a_run; (repeat' split) <;> rfl))
theorem gs_counted (h : gbR3 S I J) (b t d : Int32) : gbTw I J (fnX10_counted 0 b t d) (fnX11_counted 241 b t d) := gb_two h (X_counted h.1 b t d) (fun _ _ m => M_counted m b t d) (h.2.2.kp (by unfold a_counted; (repeat' split) <;> rfl) (by unfold a_counted; (repeat' split) <;> rfl))
theorem gs_wrong (h : gbR3 S I J) (b d : Int32) : gbTw I J (fnX10_wrong 0 b d) (fnX11_wrong 241 b d) := gb_two h (X_wrong h.1 h.2.2.1 b d) (fun _ _ m => M_wrong m h.1.1.2.1 h.1.1.1 (h.1.B16 h.2.2) b d) (h.2.2.kp rfl rfl)
theorem gs_misfit (h : gbR3 S I J) (b d : Int32) : gbTw I J (fnX10_misfit 0 b d) (fnX11_misfit 241 b d) := gb_two h (X_misfit h.1 h.2.2.1 b d) (fun _ _ m => m_misfit m h.1.1.2.1 h.1.1.1 (h.1.B16 h.2.2) b d) (h.2.2.kp rfl rfl)
theorem gs_fits (h : gbR3 S I J) (d : Int32) : gbTw I J (fnX10_fits 0 d) (fnX11_fits 241 d) := gb_two h (X_fits h.1 h.2.2.1 d) (fun _ _ m => M_fits m h.1.1.2.1 h.1.1.1 (h.1.B16 h.2.2) d) (h.2.2.kp rfl rfl)
theorem gs_pairs (h : gbR3 S I J) (b d k : Int32) : gbTw I J (fnX10_pairs 0 b d k) (fnX11_pairs 241 b d k) := gb_two h (X_pairs h.1 b d k) (fun _ _ m => M_pairs m b d k) (h.2.2.kp (by unfold a_pairs; (repeat' split) <;> rfl) (by unfold a_pairs; (repeat' split) <;> rfl))
theorem gs_notes (h : gbR3 S I J) (d k : Int32) : gbTw I J (fnX10_notes 0 d k) (fnX11_notes 241 d k) := gb_two h (X_notes h.1 d k) (fun _ _ m => M_notes m d k) (h.2.2.kp (by unfold a_notes; (repeat' split) <;> rfl) (by unfold a_notes; (repeat' split) <;> rfl))
theorem gs_plan (h : gbR3 S I J) (n p0 p1 p2 p3 p4 : Int32) : gbTw I J (fnX10_plan 0 n p0 p1 p2 p3 p4) (fnX11_plan 241 n p0 p1 p2 p3 p4) := gb_two h (X_plan h.1 h.2.2.2 n p0 p1 p2 p3 p4) (fun _ _ m => M_plan m h.1.1.2.1 h.1.1.1 h.2.2.2 h.1.2.2.2.2.2.1.1 n p0 p1 p2 p3 p4) (h.2.2.kp (by unfold a_plan; (repeat' split) <;> rfl) (by unfold a_plan; (repeat' split) <;> rfl))
theorem gs_planned (h : gbR3 S I J) (i : Int32) : gbTw I J (fnX10_planned 0 i) (fnX11_planned 241 i) := gb_two h (X_planned h.1 h.1.2.2.2.2.2.1.1 i) (fun _ _ m => M_planned m (fun q hq => ⟨(h.1.pl3 q hq).1, fun i j hj => Nat.lt_of_lt_of_le ((h.1.pl3 q hq).2 i j hj) h.1.2.2.2.2.2.1.1⟩) i) (h.2.2.kp rfl rfl)
theorem gs_build (h : gbR3 S I J) (b : Int32) : gbTw I J (fnX10_build 0 b) (fnX11_build 241 b) := gb_two h (X_build h.1 b) (fun _ _ m => M_build (fun q hq => (h.1.pl3 q hq).2) (fun q hq => (h.1.pl3 q hq).1) (fun b hb => (h.1.B16 h.2.2 b hb).1) m b) (by
  unfold a_build
  split
  · split
    · exact h.2.2.kp rfl rfl
    · next q e =>
      refine ⟨fun i hi => ?_, h.2.2.2⟩
      show gb_wl 0 0 (gb_ub S.2.2.2.2.1 b.toNatClampNeg (gb_pp S.2.2.2.2.2.1 q.1) i)
      unfold gb_ub
      split
      · refine gso_wl (fun p hp => ?_)
        obtain ⟨x, hx, ex⟩ := List.getElem_of_mem hp
        obtain ⟨j, _, hj⟩ := gb_pp_at (fun i j hj => (h.1.pl3 q e).2 i j hj) (show (gb_pp S.2.2.2.2.2.1 q.1)[x]? = some p by rw [List.getElem?_eq_getElem hx, ex])
        exact h.2.2.2 p (List.mem_of_getElem? hj)
      · exact h.2.2.1 i hi
  · exact h.2.2.kp rfl rfl)
theorem gs_count (h : gbR3 S I J) (v : Int32) : gbTw I J (fnX10_count 0 v) (fnX11_count 241 v) := gb_two h (X_count h.1 v) (fun _ _ m => M_count m v) (h.2.2.kp rfl rfl)
theorem gs_status (h : gbR3 S I J) : gbTw I J (fnX10_status 0) (fnX11_status 241) := gb_two h (X_status h.1) (fun _ _ m => M_status m) h.2.2
end IV
