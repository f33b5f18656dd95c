set_option maxHeartbeats 4000000 in
set_option maxRecDepth 100000 in
theorem m_X11_has_e (l : Launch) (p1 : Int32) (p2 : Int32) : pMi l yX11_has cX11_has 2 .boolean { frames := 0, cells := 0, slots := 0, locals := 0 } [.int p1, .int p2] (fun r => r = hv p1 p2) := by
  refine Met.ofW (cc := cX11_has) (maxL := 2) (ret := some .boolean) (by decide) rfl ?_
  intro p e s m args below meth c s₁ B hml hv
  obtain ⟨rfl, -⟩ := hv
  have hx := B.exec
  have hb := B.bytes
  have hr := B.returns
  have hts : ∀ w ∈ lw_g, w.before _ s = true := fun w h => atoms_spec (ws := wc_ws yX11_has cX11_has 2 (some .boolean)) B.pre w (List.mem_cons_of_mem _ h)
  have hown : s.vm.findClass RX11 = some m.cls := findClass_of_methodNamed B.named
  have hlocks := B.notSynchronized
  have hS : va_S (fun _ => False) s.heap s.heap [] := va_S.rf
  have hl := lv_entry ([.int p1, .int p2]) (n := 2) (Nat.le_of_ble_eq_true rfl)
  rw [lg_entry_eq]
  generalize (lg_sl ([.int p1, .int p2]) ++ List.replicate (2 - (lg_sl ([.int p1, .int p2])).length) Slot.unset).toArray = ls at hl ⊢
  have hl : lv_has ls 2 [(0, .int p1), (1, .int p2)] := hl
  refine wq_all ?_
  intro WW w1 w2
  refine lv_iload_n hx hb dX11_has_0 rfl (lv_at hl 0 rfl) ?_
  refine lv_iload_n hx hb dX11_has_1 rfl (lv_at hl 1 rfl) ?_
  refine lv_ishr hx hb dX11_has_2 ?_
  refine lv_topi (fun x2 e2 => ?_)
  refine lv_iconst (v := 1) hx hb dX11_has_3 (by decide) ?_
  refine lv_iand hx hb dX11_has_4 ?_
  refine lv_topi (fun x4 e4 => ?_)
  have r4 : ir x4 0 1 := ir_and e4 (ir_w (ir_c (1) (by decide) : ir (1 : Int32) (1) (1)) (by decide) (by decide))
  refine lv_iconst (v := 1) hx hb dX11_has_5 (by decide) ?_
  refine lv_icmp_ne (tgt := 13) hx hb dX11_has_6 (by decide) (fun c6 => ?_) (fun c6 => ?_)
  · refine lv_iconst (v := 0) hx hb dX11_has_13 (by decide) ?_
    exact W.zret (v := (0 : Int32)) hx hb hr rfl (fun t ht _ => ⟨⟨(0 : Int32), (), rfl, (by unfold hv; rw [if_neg (by rw [← e2, ← e4]; exact c6)]), trivial⟩, hS.F ht⟩) hS.2.2 dX11_has_14
  · have rx4_6 : ir x4 1 1 := rf_eq c6 (ir_c (1) (by decide) : ir (1 : Int32) (1) (1))
    refine lv_iconst (v := 1) hx hb dX11_has_9 (by decide) ?_
    refine lv_goto (tgt := 14) hx hb dX11_has_10 (by decide) ?_
    exact W.zret (v := (1 : Int32)) hx hb hr rfl (fun t ht _ => ⟨⟨(1 : Int32), (), rfl, (by unfold hv; rw [if_pos (by rw [← e2, ← e4]; exact c6)]), trivial⟩, hS.F ht⟩) hS.2.2 dX11_has_14
