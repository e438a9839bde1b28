/-! the class: billing -/
set_option maxHeartbeats 4000000 in
set_option maxRecDepth 100000 in
theorem c_X4_billEntries (l : Launch) (A : Nat → Prop) (D : va_G) (ac : Nat → ClassId) (dE : Nat) (G : TG) {h0 : Nat} {α : Nat → Nat → Nat} {M : TS} {nv : Nat} (hP : PX ac dE h0 α M nv G) (hW : W0 M) (hB : WB M nv) (v r : Nat) (w : Int32) (hv : v < nv) (hr0 : r < nT M) : Met l yX4_billEntries wsX4_billEntries ({ frames := 4, cells := 0, slots := 0, locals := 220 } : Room) (va_Pc [.ref h0, .ref (α 3 v), .ref (α 1 r), .int w] (tkX A D ac dE G)) (va_Qi (fun z G9 => PX ac dE h0 α (cbS M r w v (nE M)).1 nv G9 ∧ z = (cbS M r w v (nE M)).2) (fun (G9 : TG) t => tkM A D G9 t.heap) A) 0 0 A := by
  refine Met.ofW (cc := cX4_billEntries) (maxL := 7) (ret := (some .int)) (by decide) rfl ?_
  intro p e s m args below meth c s₁ B hml hv
  obtain ⟨rfl, ⟨hM, hK, hA, hF⟩, hO⟩ := hv
  have hS : va_S A s.heap s.heap [] := va_S.rf
  have hx := B.exec
  have hb := B.bytes
  have hr := B.returns
  have hts := atoms_spec (ws := wsX4_billEntries) B.pre
  have hown : s.vm.findClass RX4 = some m.cls := findClass_of_methodNamed B.named
  have hlocks := B.notSynchronized
  have S0 : CallFix p m c cX4_billEntries 7 s ([.ref h0, .ref (α 3 v), .ref (α 1 r), .int w] : List Value).toArray wsX4_billEntries RX4 := ⟨hx, hb, hml, hown, hts⟩
  have inX4 : ∀ w ∈ wsX40, w ∈ wsX4_billEntries := by decide +kernel
  have inX0 : ∀ w ∈ wsX00, w ∈ wsX4_billEntries := by decide +kernel
  have inX1 : ∀ w ∈ wsX10, w ∈ wsX4_billEntries := by decide +kernel
  have inX2 : ∀ w ∈ wsX20, w ∈ wsX4_billEntries := by decide +kernel
  have hl := lv_entry ([.ref h0, .ref (α 3 v), .ref (α 1 r), .int w]) (n := 7) (Nat.le_of_ble_eq_true rfl)
  rw [lg_entry_eq]
  generalize (lg_sl ([.ref h0, .ref (α 3 v), .ref (α 1 r), .int w]) ++ List.replicate (7 - (lg_sl ([.ref h0, .ref (α 3 v), .ref (α 1 r), .int w])).length) Slot.unset).toArray = ls at hl ⊢
  have hl : lv_has ls 7 [(0, .ref h0), (1, .ref (α 3 v)), (2, .ref (α 1 r)), (3, .int w)] := hl
  have bT := hW.t.2
  have bE := hW.e.2
  have bV := hW.v.2
  have hz21 := hB.1
  refine lv_iconst (v := 0) hx hb dX4_billEntries_0 (by decide) ?_
  refine lv_istore (lv' := [(4, .int 0), (0, .ref h0), (1, .ref (α 3 v)), (2, .ref (α 1 r)), (3, .int w)]) hx hb dX4_billEntries_1 hl (by decide) rfl (fun ls hl => ?_)
  refine lv_iconst (v := 0) hx hb dX4_billEntries_3 (by decide) ?_
  refine lv_istore (lv' := [(5, .int 0), (4, .int 0), (0, .ref h0), (1, .ref (α 3 v)), (2, .ref (α 1 r)), (3, .int w)]) hx hb dX4_billEntries_4 hl (by decide) rfl (fun ls hl => ?_)
  refine tk_g1 (Wf := fun H locs g => W p l e _ s m _ below meth c H locs _ _ _ g) (nE M) (fun i (acc : Int32) H locs ls => lv_has ls 7 [(0, .ref h0), (1, .ref (α 3 v)), (2, .ref (α 1 r)), (3, .int w), (5, .int (nI i)), (4, .int acc)] ∧ acc = (cbS M r w v i).2 ∧ ∃ G : TG, PX ac dE h0 α ((cbS M r w v i).1) nv G ∧ tkM A D G H ∧ va_S A s.heap H locs) (fun i acc H locs ls hi hinv ih => ?_) _ _ _ ls ⟨(lv_sub hl [2, 3, 4, 5, 0, 1] rfl), rfl, _, hP, hM, hS⟩
  obtain ⟨hl, hacc, G, hP, hM, hS⟩ := hinv
  have e0 : ((cbS M r w v i).1) 0 = M 0 := cbS_f (by decide) (by decide) (by decide) i
  have eT : nT ((cbS M r w v i).1) = nT M := nT_cg e0
  have eE : nE ((cbS M r w v i).1) = nE M := nE_cg e0
  have eV : nV ((cbS M r w v i).1) = nV M := nV_cg e0
  have hW := cbS_W hW r w v i
  have bT := hW.t.2
  have bE := hW.e.2
  have bV := hW.v.2
  have hB := cbS_B (r := r) (w := w) hB hv i
  refine lv_iload hx hb dX4_billEntries_6 (lv_at hl 4 rfl) ?_
  refine lv_aload_n hx hb dX4_billEntries_8 rfl (lv_at hl 0 rfl) ?_
  refine tk_get hx hb hts inX4 hown hK hM hP.h rfl 1 (by decide) (hts (.fieldLink RX4 16 "TicketForge" "entryList" "Ljava/util/ArrayList;") (by decide +kernel)) (fun _ h9 => h9) rfl dX4_billEntries_9 ?_
  refine tk_cVi (As := []) S0 (c_Jx4a65c_size_8abf5 l A D ac dE _ hP.le) (cwV 0 hts gX4_billEntries_Jx4a65c_size_8abf5 rfl rfl rfl (by decide +kernel) ⟨Nat.le_of_ble_eq_true rfl, Nat.le_of_ble_eq_true rfl⟩) (tkX.blind) (tkX.at hM hK hA hF hO hS) (LX.rec hP.le hK hM) rfl hl.1 rfl (Nat.le_of_ble_eq_true rfl) dX4_billEntries_12 ⟨Nat.le_of_ble_eq_true rfl, Nat.le_of_ble_eq_true rfl⟩ (fun r_1 hr_1 => ?_)
  subst hr_1
  refine lv_icmp_ge (tgt := 128) hx hb dX4_billEntries_15 (by decide) (fun c_2 => ?_) (fun c_2 => ?_)
  · have hge := tk_ge (by omega) (by omega) c_2
    obtain rfl : i = nE M := Nat.le_antisymm hi (by omega)
    refine lv_iload hx hb dX4_billEntries_128 (lv_at hl 5 rfl) ?_
    refine W.widen (k := 0) (n := 0) (Nat.le_of_ble_eq_true rfl) (Nat.le_of_ble_eq_true rfl) ?_
    exact W.iret (v := acc) hx hb hr (fun t9 h9 w9 => ⟨⟨acc, _, rfl, ⟨hP, hacc⟩, (by show tkM A D _ _; rw [h9]; exact hM)⟩, hS.F h9⟩) hS.2.2 dX4_billEntries_130
  · have hlt0 := tk_lt (by omega) (by omega) c_2
    have hlt : i < nE M := by omega
    refine lv_aload_n hx hb dX4_billEntries_18 rfl (lv_at hl 0 rfl) ?_
    refine tk_get hx hb hts inX4 hown hK hM hP.h rfl 1 (by decide) (hts (.fieldLink RX4 16 "TicketForge" "entryList" "Ljava/util/ArrayList;") (by decide +kernel)) (fun _ h9 => h9) rfl dX4_billEntries_19 ?_
    refine lv_iload hx hb dX4_billEntries_22 (lv_at hl 4 rfl) ?_
    have hg_4 : i < nE ((cbS M r w v i).1) := by omega
    refine tk_cVq (As := [.int (nI i)]) S0 (c_Jx4a65c_get_915e3 l A D ac dE _ hP.le i hg_4 (by omega)) (cwV 1 hts gX4_billEntries_Jx4a65c_get_915e3 rfl rfl rfl (by decide +kernel) ⟨Nat.le_of_ble_eq_true rfl, Nat.le_of_ble_eq_true rfl⟩) (tkX.blind) (tkX.at hM hK hA hF hO hS) (LX.rec hP.le hK hM) rfl hl.1 rfl (Nat.le_of_ble_eq_true rfl) dX4_billEntries_24 ⟨Nat.le_of_ble_eq_true rfl, Nat.le_of_ble_eq_true rfl⟩ (fun r_3 hr_3 => ?_)
    subst hr_3
    refine va_castY (C := "TicketForge$Entry") hx hb hown (hts (.classLink RX4 178 "TicketForge$Entry") (by decide +kernel)) (hF.2.2.2 ("TicketForge$Entry", "TicketForge$Entry") (by decide +kernel)) (tk_recv hK hM (hP.e hg_4) rfl (ci := 3) (q := (RX0, TX0, 7))) dX4_billEntries_27 ?_
    refine lv_astore (lv' := [(6, .ref (α 2 i)), (0, .ref h0), (1, .ref (α 3 v)), (2, .ref (α 1 r)), (3, .int w), (5, .int (nI i)), (4, .int acc)]) hx hb dX4_billEntries_30 hl (by decide) rfl (fun ls hl => ?_)
    refine lv_aload hx hb dX4_billEntries_32 (lv_at hl 0 rfl) ?_
    refine lv_aload_n hx hb dX4_billEntries_34 rfl (lv_at hl 3 rfl) ?_
    refine lv_iload_n hx hb dX4_billEntries_35 rfl (lv_at hl 4 rfl) ?_
    refine tk_cSi (As := [.ref (α 2 i), .ref (α 1 r), .int w]) S0 (c_X4_isToInvoice l A D ac dE _ hP hW i r w hg_4 (by omega)) (va_cwS 3 hts gX4_billEntries_X4_isToInvoice rfl rfl rfl (by decide +kernel) ⟨Nat.le_of_ble_eq_true rfl, Nat.le_of_ble_eq_true rfl⟩) (tkX.blind) (tkX.at hM hK hA hF hO hS) rfl hl.1 rfl (Nat.le_of_ble_eq_true rfl) dX4_billEntries_36 ⟨Nat.le_of_ble_eq_true rfl, Nat.le_of_ble_eq_true rfl⟩ (fun r_5 hr_5 => ?_)
    rcases hr_5 with ⟨rfl, hr_5⟩ | ⟨rfl, hr_5⟩
    · skip
      refine lv_if_ne (tgt := 45) hx hb dX4_billEntries_39 (by decide) (fun c_6 => ?_) (fun c_6 => absurd c_6 (by decide))
      refine lv_aload_n hx hb dX4_billEntries_45 rfl (lv_at hl 1 rfl) ?_
      refine lv_aload hx hb dX4_billEntries_46 (lv_at hl 0 rfl) ?_
      refine tk_get hx hb hts inX0 hown hK hM (hP.e hg_4) rfl 1 (by decide) (hts (.fieldLink RX4 345 "TicketForge$Entry" "person" "I") (by decide +kernel)) (fun _ h9 => h9) rfl dX4_billEntries_48 ?_
      refine lv_aload hx hb dX4_billEntries_51 (lv_at hl 0 rfl) ?_
      refine tk_get hx hb hts inX0 hown hK hM (hP.e hg_4) rfl 2 (by decide) (hts (.fieldLink RX4 190 "TicketForge$Entry" "week" "I") (by decide +kernel)) (fun _ h9 => h9) rfl dX4_billEntries_53 ?_
      refine tk_cVi (As := [.int (((cbS M r w v i).1) 10 i), .int (((cbS M r w v i).1) 11 i)]) S0 (c_X4_chargedHours l A D ac dE _ hP hW hB (((cbS M r w v i).1) 10 i) (((cbS M r w v i).1) 11 i)) (cwV 2 hts gX4_billEntries_X4_chargedHours rfl rfl rfl (by decide +kernel) ⟨Nat.le_of_ble_eq_true rfl, Nat.le_of_ble_eq_true rfl⟩) (tkX.blind) (tkX.at hM hK hA hF hO hS) (tk_recv hK hM hP.h rfl) rfl hl.1 rfl (Nat.le_of_ble_eq_true rfl) dX4_billEntries_56 ⟨Nat.le_of_ble_eq_true rfl, Nat.le_of_ble_eq_true rfl⟩ (fun r_7 hr_7 => ?_)
      subst hr_7
      refine lv_aload hx hb dX4_billEntries_59 (lv_at hl 0 rfl) ?_
      refine tk_get hx hb hts inX0 hown hK hM (hP.e hg_4) rfl 3 (by decide) (hts (.fieldLink RX4 300 "TicketForge$Entry" "hours" "I") (by decide +kernel)) (fun _ h9 => h9) rfl dX4_billEntries_61 ?_
      refine lv_iadd hx hb dX4_billEntries_64 ?_
      refine lv_aload_n hx hb dX4_billEntries_65 rfl (lv_at hl 2 rfl) ?_
      refine tk_get hx hb hts inX1 hown hK hM (hP.v hv) rfl 1 (by decide) (hts (.fieldLink RX4 351 "TicketForge$Invoice" "rules" "LTicketForge$Rules;") (by decide +kernel)) (fun _ h9 => h9) rfl dX4_billEntries_66 ?_
      refine tk_get hx hb hts inX2 hown hK hM (hP.vr hv) rfl 1 (by decide) (hts (.fieldLink RX4 226 "TicketForge$Rules" "cap" "I") (by decide +kernel)) (fun _ h9 => h9) rfl dX4_billEntries_69 ?_
      refine lv_icmp_le (tgt := 85) hx hb dX4_billEntries_72 (by decide) (fun c_8 => ?_) (fun c_8 => ?_)
      · skip
        refine lv_aload hx hb dX4_billEntries_85 (lv_at hl 0 rfl) ?_
        refine lv_bipush (v := 98) hx hb dX4_billEntries_87 (by decide) ?_
        refine tk_put (ty := .char) hx hb hts inX0 tyX0 tyX0_ok nmX0 hown hK hM hS (hP.e hg_4) rfl 4 (by decide) (hts (.fieldLink RX4 187 "TicketForge$Entry" "state" "C") (by decide +kernel)) (fun _ h9 => h9) rfl (by decide +kernel) rfl rfl (Nat.le_of_ble_eq_true rfl) dX4_billEntries_89 (fun H locs hM hS => ?_)
        refine lv_aload hx hb dX4_billEntries_92 (lv_at hl 0 rfl) ?_
        refine lv_aload_n hx hb dX4_billEntries_94 rfl (lv_at hl 2 rfl) ?_
        refine tk_put (ty := (.object "TicketForge$Invoice")) hx hb hts inX0 tyX0 tyX0_ok nmX0 hown hK hM hS (va_up_self _ _ _) rfl 6 (by decide) (hts (.fieldLink RX4 284 "TicketForge$Entry" "invoice" "LTicketForge$Invoice;") (by decide +kernel)) (fun _ h9 => h9) rfl (by decide +kernel) rfl rfl (Nat.le_of_ble_eq_true rfl) dX4_billEntries_95 (fun H locs hM hS => ?_)
        rw [va_up2] at hM
        have hP := hP.e46 hg_4 (q := v) (by omega)
        have hW2 : W0 (st (st ((cbS M r w v i).1) 5 i 98) 14 i (nI v)) := (hW.ofst 5 (by decide)).ofst 14 (by decide)
        obtain ⟨f9, ha9, hf9⟩ := hP.va hv
        refine lv_aload hx hb dX4_billEntries_98 (lv_at hl 0 rfl) ?_
        refine lv_aload_n hx hb dX4_billEntries_100 rfl (lv_at hl 2 rfl) ?_
        refine tk_get hx hb hts inX1 hown hK hM (hP.v hv) rfl 1 (by decide) (hts (.fieldLink RX4 351 "TicketForge$Invoice" "rules" "LTicketForge$Rules;") (by decide +kernel)) (fun _ h9 => h9) rfl dX4_billEntries_101 ?_
        refine lv_aload hx hb dX4_billEntries_104 (lv_at hl 0 rfl) ?_
        refine tk_cVi (As := [.ref (α 2 i)]) S0 (c_X2_fullPrice l A D ac dE _ hP (hP.vr hv) ha9 i hg_4) (cwV 1 hts gX4_billEntries_X2_fullPrice rfl rfl rfl (by decide +kernel) ⟨Nat.le_of_ble_eq_true rfl, Nat.le_of_ble_eq_true rfl⟩) (tkX.blind) (tkX.at hM hK hA hF hO hS) (tk_recv hK hM (hP.vr hv) rfl) rfl hl.1 rfl (Nat.le_of_ble_eq_true rfl) dX4_billEntries_106 ⟨Nat.le_of_ble_eq_true rfl, Nat.le_of_ble_eq_true rfl⟩ (fun r_9 hr_9 => ?_)
        have hpr : r_9 = priceV M v i := by
          rw [hr_9, rate_v hW2 hf9 hg_4]
          show ((cbS M r w v i).1) 12 i * ((cbS M r w v i).1) 20 (4 * v + tn (((cbS M r w v i).1) 10 i)) = _
          rw [cbS_f (M := M) (r := r) (w := w) (v := v) (f := 12) (by decide) (by decide) (by decide) i, cbS_f (M := M) (r := r) (w := w) (v := v) (f := 20) (by decide) (by decide) (by decide) i, cbS_f (M := M) (r := r) (w := w) (v := v) (f := 10) (by decide) (by decide) (by decide) i]
          rfl
        subst hpr
        refine tk_put (ty := .int) hx hb hts inX0 tyX0 tyX0_ok nmX0 hown hK hM hS (hP.e hg_4) rfl 5 (by decide) (hts (.fieldLink RX4 207 "TicketForge$Entry" "price" "I") (by decide +kernel)) (fun _ h9 => h9) rfl (by decide +kernel) rfl rfl (Nat.le_of_ble_eq_true rfl) dX4_billEntries_109 (fun H locs hM hS => ?_)
        have hP := hP.e5 hg_4 (v := (priceV M v i))
        refine lv_iload hx hb dX4_billEntries_112 (lv_at hl 6 rfl) ?_
        refine lv_aload hx hb dX4_billEntries_114 (lv_at hl 0 rfl) ?_
        refine tk_get hx hb hts inX0 hown hK hM (hP.e hg_4) rfl 5 (by decide) (hts (.fieldLink RX4 207 "TicketForge$Entry" "price" "I") (by decide +kernel)) (fun _ h9 => h9) rfl dX4_billEntries_116 ?_
        refine lv_iadd hx hb dX4_billEntries_119 ?_
        refine lv_istore (lv' := [(4, .int (acc + ((st (st (st ((cbS M r w v i).1) 5 i 98) 14 i (nI v)) 13 i (priceV M v i)) 13 i))), (6, .ref (α 2 i)), (0, .ref h0), (1, .ref (α 3 v)), (2, .ref (α 1 r)), (3, .int w), (5, .int (nI i))]) hx hb dX4_billEntries_120 hl (by decide) rfl (fun ls hl => ?_)
        refine lv_iinc (v := (nI (i + 1))) (lv' := [(5, .int (nI (i + 1))), (4, .int (acc + ((st (st (st ((cbS M r w v i).1) 5 i 98) 14 i (nI v)) 13 i (priceV M v i)) 13 i))), (6, .ref (α 2 i)), (0, .ref h0), (1, .ref (α 3 v)), (2, .ref (α 1 r)), (3, .int w)]) hx hb dX4_billEntries_122 hl (k := 6) rfl (nI_1 i) (by decide) rfl (fun ls hl => ?_)
        refine lv_goto (tgt := 6) hx hb dX4_billEntries_125 (by decide) ?_
        have hstep : cbS M r w v (i + 1) = ((st (st (st ((cbS M r w v i).1) 5 i 98) 14 i (nI v)) 13 i (priceV M v i)), (acc + ((st (st (st ((cbS M r w v i).1) 5 i 98) 14 i (nI v)) 13 i (priceV M v i)) 13 i))) := (by rw [cbS, if_pos hr_5, if_pos (by rw [cbS_f (M := M) (r := r) (w := w) (v := v) (f := 10) (by decide) (by decide) (by decide) i, cbS_f (M := M) (r := r) (w := w) (v := v) (f := 11) (by decide) (by decide) (by decide) i, cbS_f (M := M) (r := r) (w := w) (v := v) (f := 12) (by decide) (by decide) (by decide) i, cbS_f (M := M) (r := r) (w := w) (v := v) (f := 21) (by decide) (by decide) (by decide) i] at c_8; exact c_8), hacc, st_self])
        exact ih _ _ _ ls (by omega) ⟨(lv_sub hl [3, 4, 5, 6, 0, 1] rfl), (by rw [hstep]), _, (by rw [hstep]; exact hP), hM, hS⟩
      · skip
        refine lv_aload hx hb dX4_billEntries_75 (lv_at hl 0 rfl) ?_
        refine lv_bipush (v := 120) hx hb dX4_billEntries_77 (by decide) ?_
        refine tk_put (ty := .char) hx hb hts inX0 tyX0 tyX0_ok nmX0 hown hK hM hS (hP.e hg_4) rfl 4 (by decide) (hts (.fieldLink RX4 187 "TicketForge$Entry" "state" "C") (by decide +kernel)) (fun _ h9 => h9) rfl (by decide +kernel) rfl rfl (Nat.le_of_ble_eq_true rfl) dX4_billEntries_79 (fun H locs hM hS => ?_)
        have hP := hP.e4 hg_4 (v := 120) (by have h9 := hr_5; rw [lookedAt] at h9; simp only [Bool.and_eq_true, decide_eq_true_eq] at h9; rw [billed, billed, st_self, h9.1.1.1]; decide)
        refine lv_goto (tgt := 122) hx hb dX4_billEntries_82 (by decide) ?_
        refine lv_iinc (v := (nI (i + 1))) (lv' := [(5, .int (nI (i + 1))), (6, .ref (α 2 i)), (0, .ref h0), (1, .ref (α 3 v)), (2, .ref (α 1 r)), (3, .int w), (4, .int acc)]) hx hb dX4_billEntries_122 hl (k := 5) rfl (nI_1 i) (by decide) rfl (fun ls hl => ?_)
        refine lv_goto (tgt := 6) hx hb dX4_billEntries_125 (by decide) ?_
        have hstep : cbS M r w v (i + 1) = ((st ((cbS M r w v i).1) 5 i 120), acc) := (by rw [cbS, if_pos hr_5, if_neg (by rw [cbS_f (M := M) (r := r) (w := w) (v := v) (f := 10) (by decide) (by decide) (by decide) i, cbS_f (M := M) (r := r) (w := w) (v := v) (f := 11) (by decide) (by decide) (by decide) i, cbS_f (M := M) (r := r) (w := w) (v := v) (f := 12) (by decide) (by decide) (by decide) i, cbS_f (M := M) (r := r) (w := w) (v := v) (f := 21) (by decide) (by decide) (by decide) i] at c_8; exact c_8), hacc])
        exact ih _ _ _ ls (by omega) ⟨(lv_sub hl [2, 3, 4, 5, 0, 6] rfl), (by rw [hstep]), _, (by rw [hstep]; exact hP), hM, hS⟩
    · skip
      refine lv_if_ne (tgt := 45) hx hb dX4_billEntries_39 (by decide) (fun c_10 => absurd c_10 (by decide)) (fun c_10 => ?_)
      refine lv_goto (tgt := 122) hx hb dX4_billEntries_42 (by decide) ?_
      refine lv_iinc (v := (nI (i + 1))) (lv' := [(5, .int (nI (i + 1))), (6, .ref (α 2 i)), (0, .ref h0), (1, .ref (α 3 v)), (2, .ref (α 1 r)), (3, .int w), (4, .int acc)]) hx hb dX4_billEntries_122 hl (k := 5) rfl (nI_1 i) (by decide) rfl (fun ls hl => ?_)
      refine lv_goto (tgt := 6) hx hb dX4_billEntries_125 (by decide) ?_
      have hstep : cbS M r w v (i + 1) = ((cbS M r w v i).1, acc) := (by rw [cbS, if_neg (by rw [hr_5]; decide)]; exact Prod.ext rfl hacc.symm)
      exact ih _ _ _ ls (by omega) ⟨(lv_sub hl [2, 3, 4, 5, 0, 6] rfl), (by rw [hstep]), _, (by rw [hstep]; exact hP), hM, hS⟩
set_option maxHeartbeats 4000000 in
set_option maxRecDepth 100000 in
theorem c_X4_discountPrices (l : Launch) (A : Nat → Prop) (D : va_G) (ac : Nat → ClassId) (dE : Nat) (G : TG) {h0 : Nat} {α : Nat → Nat → Nat} {M : TS} {nv : Nat} (hP : PX ac dE h0 α M nv G) (hW : W0 M) (hB : WB M nv) (v : Nat) (sm : Int32) (hv : v < nv) : Met l yX4_discountPrices wsX4_discountPrices ({ frames := 3, cells := 0, slots := 0, locals := 180 } : Room) (va_Pc [.ref h0, .ref (α 3 v), .int sm] (tkX A D ac dE G)) (va_Qi (fun z G9 => PX ac dE h0 α (cdS M v sm (nE M)).1 nv G9 ∧ z = (cdS M v sm (nE M)).2) (fun (G9 : TG) t => tkM A D G9 t.heap) A) 0 0 A := by
  refine Met.ofW (cc := cX4_discountPrices) (maxL := 6) (ret := (some .int)) (by decide) rfl ?_
  intro p e s m args below meth c s₁ B hml hv
  obtain ⟨rfl, ⟨hM, hK, hA, hF⟩, hO⟩ := hv
  have hS : va_S A s.heap s.heap [] := va_S.rf
  have hx := B.exec
  have hb := B.bytes
  have hr := B.returns
  have hts := atoms_spec (ws := wsX4_discountPrices) B.pre
  have hown : s.vm.findClass RX4 = some m.cls := findClass_of_methodNamed B.named
  have hlocks := B.notSynchronized
  have S0 : CallFix p m c cX4_discountPrices 6 s ([.ref h0, .ref (α 3 v), .int sm] : List Value).toArray wsX4_discountPrices RX4 := ⟨hx, hb, hml, hown, hts⟩
  have inX4 : ∀ w ∈ wsX40, w ∈ wsX4_discountPrices := by decide +kernel
  have inX0 : ∀ w ∈ wsX00, w ∈ wsX4_discountPrices := by decide +kernel
  have inX1 : ∀ w ∈ wsX10, w ∈ wsX4_discountPrices := by decide +kernel
  have hl := lv_entry ([.ref h0, .ref (α 3 v), .int sm]) (n := 6) (Nat.le_of_ble_eq_true rfl)
  rw [lg_entry_eq]
  generalize (lg_sl ([.ref h0, .ref (α 3 v), .int sm]) ++ List.replicate (6 - (lg_sl ([.ref h0, .ref (α 3 v), .int sm])).length) Slot.unset).toArray = ls at hl ⊢
  have hl : lv_has ls 6 [(0, .ref h0), (1, .ref (α 3 v)), (2, .int sm)] := hl
  have bT := hW.t.2
  have bE := hW.e.2
  have bV := hW.v.2
  have hz21 := hB.1
  refine lv_iconst (v := 0) hx hb dX4_discountPrices_0 (by decide) ?_
  refine lv_istore_n (lv' := [(3, .int 0), (0, .ref h0), (1, .ref (α 3 v)), (2, .int sm)]) hx hb dX4_discountPrices_1 rfl hl (by decide) rfl (fun ls hl => ?_)
  refine lv_iconst (v := 0) hx hb dX4_discountPrices_2 (by decide) ?_
  refine lv_istore (lv' := [(4, .int 0), (3, .int 0), (0, .ref h0), (1, .ref (α 3 v)), (2, .int sm)]) hx hb dX4_discountPrices_3 hl (by decide) rfl (fun ls hl => ?_)
  refine tk_g1 (Wf := fun H locs g => W p l e _ s m _ below meth c H locs _ _ _ g) (nE M) (fun i (acc : Int32) H locs ls => lv_has ls 6 [(0, .ref h0), (1, .ref (α 3 v)), (2, .int sm), (4, .int (nI i)), (3, .int acc)] ∧ acc = (cdS M v sm i).2 ∧ ∃ G : TG, PX ac dE h0 α ((cdS M v sm i).1) nv G ∧ tkM A D G H ∧ va_S A s.heap H locs) (fun i acc H locs ls hi hinv ih => ?_) _ _ _ ls ⟨(lv_sub hl [2, 3, 4, 0, 1] rfl), rfl, _, hP, hM, hS⟩
  obtain ⟨hl, hacc, G, hP, hM, hS⟩ := hinv
  have e0 : ((cdS M v sm i).1) 0 = M 0 := cdS_f (by decide) i
  have eT : nT ((cdS M v sm i).1) = nT M := nT_cg e0
  have eE : nE ((cdS M v sm i).1) = nE M := nE_cg e0
  have eV : nV ((cdS M v sm i).1) = nV M := nV_cg e0
  have hW := cdS_W hW v sm i
  have bT := hW.t.2
  have bE := hW.e.2
  have bV := hW.v.2
  have hB := cdS_B (v := v) (s := sm) hB i
  refine lv_iload hx hb dX4_discountPrices_5 (lv_at hl 3 rfl) ?_
  refine lv_aload_n hx hb dX4_discountPrices_7 rfl (lv_at hl 0 rfl) ?_
  refine tk_get hx hb hts inX4 hown hK hM hP.h rfl 1 (by decide) (hts (.fieldLink RX4 16 "TicketForge" "entryList" "Ljava/util/ArrayList;") (by decide +kernel)) (fun _ h9 => h9) rfl dX4_discountPrices_8 ?_
  refine tk_cVi (As := []) S0 (c_Jx4a65c_size_8abf5 l A D ac dE _ hP.le) (cwV 0 hts gX4_discountPrices_Jx4a65c_size_8abf5 rfl rfl rfl (by decide +kernel) ⟨Nat.le_of_ble_eq_true rfl, Nat.le_of_ble_eq_true rfl⟩) (tkX.blind) (tkX.at hM hK hA hF hO hS) (LX.rec hP.le hK hM) rfl hl.1 rfl (Nat.le_of_ble_eq_true rfl) dX4_discountPrices_11 ⟨Nat.le_of_ble_eq_true rfl, Nat.le_of_ble_eq_true rfl⟩ (fun r_1 hr_1 => ?_)
  subst hr_1
  refine lv_icmp_ge (tgt := 72) hx hb dX4_discountPrices_14 (by decide) (fun c_2 => ?_) (fun c_2 => ?_)
  · have hge := tk_ge (by omega) (by omega) c_2
    obtain rfl : i = nE M := Nat.le_antisymm hi (by omega)
    refine lv_iload_n hx hb dX4_discountPrices_72 rfl (lv_at hl 4 rfl) ?_
    refine W.widen (k := 0) (n := 0) (Nat.le_of_ble_eq_true rfl) (Nat.le_of_ble_eq_true rfl) ?_
    exact W.iret (v := acc) hx hb hr (fun t9 h9 w9 => ⟨⟨acc, _, rfl, ⟨hP, hacc⟩, (by show tkM A D _ _; rw [h9]; exact hM)⟩, hS.F h9⟩) hS.2.2 dX4_discountPrices_73
  · have hlt0 := tk_lt (by omega) (by omega) c_2
    have hlt : i < nE M := by omega
    refine lv_aload_n hx hb dX4_discountPrices_17 rfl (lv_at hl 0 rfl) ?_
    refine tk_get hx hb hts inX4 hown hK hM hP.h rfl 1 (by decide) (hts (.fieldLink RX4 16 "TicketForge" "entryList" "Ljava/util/ArrayList;") (by decide +kernel)) (fun _ h9 => h9) rfl dX4_discountPrices_18 ?_
    refine lv_iload hx hb dX4_discountPrices_21 (lv_at hl 3 rfl) ?_
    have hg_4 : i < nE ((cdS M v sm i).1) := by omega
    refine tk_cVq (As := [.int (nI i)]) S0 (c_Jx4a65c_get_915e3 l A D ac dE _ hP.le i hg_4 (by omega)) (cwV 1 hts gX4_discountPrices_Jx4a65c_get_915e3 rfl rfl rfl (by decide +kernel) ⟨Nat.le_of_ble_eq_true rfl, Nat.le_of_ble_eq_true rfl⟩) (tkX.blind) (tkX.at hM hK hA hF hO hS) (LX.rec hP.le hK hM) rfl hl.1 rfl (Nat.le_of_ble_eq_true rfl) dX4_discountPrices_23 ⟨Nat.le_of_ble_eq_true rfl, Nat.le_of_ble_eq_true rfl⟩ (fun r_3 hr_3 => ?_)
    subst hr_3
    refine va_castY (C := "TicketForge$Entry") hx hb hown (hts (.classLink RX4 178 "TicketForge$Entry") (by decide +kernel)) (hF.2.2.2 ("TicketForge$Entry", "TicketForge$Entry") (by decide +kernel)) (tk_recv hK hM (hP.e hg_4) rfl (ci := 3) (q := (RX0, TX0, 7))) dX4_discountPrices_26 ?_
    refine lv_astore (lv' := [(5, .ref (α 2 i)), (0, .ref h0), (1, .ref (α 3 v)), (2, .int sm), (4, .int (nI i)), (3, .int acc)]) hx hb dX4_discountPrices_29 hl (by decide) rfl (fun ls hl => ?_)
    refine lv_aload hx hb dX4_discountPrices_31 (lv_at hl 0 rfl) ?_
    refine tk_get hx hb hts inX0 hown hK hM (hP.e hg_4) rfl 6 (by decide) (hts (.fieldLink RX4 284 "TicketForge$Entry" "invoice" "LTicketForge$Invoice;") (by decide +kernel)) (fun _ h9 => h9) rfl dX4_discountPrices_33 ?_
    refine lv_aload_n hx hb dX4_discountPrices_36 rfl (lv_at hl 2 rfl) ?_
    refine lv_acmp_ne (rx := (invR α ((cdS M v sm i).1) i)) (ry := (some (α 3 v))) (tgt := 66) hx hb dX4_discountPrices_37 (by decide) (fun c_5 => ?_) (fun c_5 => ?_)
    · have c_5 := mt (hP.invE hB hg_4 hv).mpr c_5
      refine lv_iinc (v := (nI (i + 1))) (lv' := [(4, .int (nI (i + 1))), (5, .ref (α 2 i)), (0, .ref h0), (1, .ref (α 3 v)), (2, .int sm), (3, .int acc)]) hx hb dX4_discountPrices_66 hl (k := 4) rfl (nI_1 i) (by decide) rfl (fun ls hl => ?_)
      refine lv_goto (tgt := 5) hx hb dX4_discountPrices_69 (by decide) ?_
      have hstep : cdS M v sm (i + 1) = ((cdS M v sm i).1, acc) := (by rw [cdS, if_neg (by rw [← bil_cg (M := M) (N := (cdS M v sm i).1) (by rw [cdS_f (M := M) (v := v) (s := sm) (f := 5) (by decide) i]), ← cdS_f (M := M) (v := v) (s := sm) (f := 14) (by decide) i]; exact c_5)]; exact Prod.ext rfl hacc.symm)
      exact ih _ _ _ ls (by omega) ⟨(lv_sub hl [2, 3, 4, 0, 5] rfl), (by rw [hstep]), _, (by rw [hstep]; exact hP), hM, hS⟩
    · have c_5 := (hP.invE hB hg_4 hv).mp c_5
      refine lv_aload hx hb dX4_discountPrices_40 (lv_at hl 0 rfl) ?_
      refine lv_aload_n hx hb dX4_discountPrices_42 rfl (lv_at hl 2 rfl) ?_
      refine tk_get hx hb hts inX1 hown hK hM (hP.v hv) rfl 1 (by decide) (hts (.fieldLink RX4 351 "TicketForge$Invoice" "rules" "LTicketForge$Rules;") (by decide +kernel)) (fun _ h9 => h9) rfl dX4_discountPrices_43 ?_
      refine lv_aload hx hb dX4_discountPrices_46 (lv_at hl 0 rfl) ?_
      refine tk_get hx hb hts inX0 hown hK hM (hP.e hg_4) rfl 5 (by decide) (hts (.fieldLink RX4 207 "TicketForge$Entry" "price" "I") (by decide +kernel)) (fun _ h9 => h9) rfl dX4_discountPrices_48 ?_
      refine lv_iload_n hx hb dX4_discountPrices_51 rfl (lv_at hl 3 rfl) ?_
      refine tk_cVi (As := [.int (((cdS M v sm i).1) 13 i), .int sm]) S0 (c_X2_discounted l A D ac dE _ (hP.vr hv) (((cdS M v sm i).1) 13 i) sm) (cwV 2 hts gX4_discountPrices_X2_discounted rfl rfl rfl (by decide +kernel) ⟨Nat.le_of_ble_eq_true rfl, Nat.le_of_ble_eq_true rfl⟩) (tkX.blind) (tkX.at hM hK hA hF hO hS) (tk_recv hK hM (hP.vr hv) rfl) rfl hl.1 rfl (Nat.le_of_ble_eq_true rfl) dX4_discountPrices_52 ⟨Nat.le_of_ble_eq_true rfl, Nat.le_of_ble_eq_true rfl⟩ (fun r_6 hr_6 => ?_)
      have hpr : r_6 = disc (M 22 v) (M 23 v) (M 13 i) sm := by
        rw [hr_6, cdS_f (M := M) (v := v) (s := sm) (f := 22) (by decide) i, cdS_f (M := M) (v := v) (s := sm) (f := 23) (by decide) i, cdS_13 i (Nat.le_refl _)]
      subst hpr
      refine tk_put (ty := .int) hx hb hts inX0 tyX0 tyX0_ok nmX0 hown hK hM hS (hP.e hg_4) rfl 5 (by decide) (hts (.fieldLink RX4 207 "TicketForge$Entry" "price" "I") (by decide +kernel)) (fun _ h9 => h9) rfl (by decide +kernel) rfl rfl (Nat.le_of_ble_eq_true rfl) dX4_discountPrices_55 (fun H locs hM hS => ?_)
      have hP := hP.e5 hg_4 (v := (disc (M 22 v) (M 23 v) (M 13 i) sm))
      refine lv_iload_n hx hb dX4_discountPrices_58 rfl (lv_at hl 5 rfl) ?_
      refine lv_aload hx hb dX4_discountPrices_59 (lv_at hl 0 rfl) ?_
      refine tk_get hx hb hts inX0 hown hK hM (hP.e hg_4) rfl 5 (by decide) (hts (.fieldLink RX4 207 "TicketForge$Entry" "price" "I") (by decide +kernel)) (fun _ h9 => h9) rfl dX4_discountPrices_61 ?_
      refine lv_iadd hx hb dX4_discountPrices_64 ?_
      refine lv_istore_n (lv' := [(3, .int (acc + ((st ((cdS M v sm i).1) 13 i (disc (M 22 v) (M 23 v) (M 13 i) sm)) 13 i))), (5, .ref (α 2 i)), (0, .ref h0), (1, .ref (α 3 v)), (2, .int sm), (4, .int (nI i))]) hx hb dX4_discountPrices_65 rfl hl (by decide) rfl (fun ls hl => ?_)
      refine lv_iinc (v := (nI (i + 1))) (lv' := [(4, .int (nI (i + 1))), (3, .int (acc + ((st ((cdS M v sm i).1) 13 i (disc (M 22 v) (M 23 v) (M 13 i) sm)) 13 i))), (5, .ref (α 2 i)), (0, .ref h0), (1, .ref (α 3 v)), (2, .int sm)]) hx hb dX4_discountPrices_66 hl (k := 5) rfl (nI_1 i) (by decide) rfl (fun ls hl => ?_)
      refine lv_goto (tgt := 5) hx hb dX4_discountPrices_69 (by decide) ?_
      have hstep : cdS M v sm (i + 1) = ((st ((cdS M v sm i).1) 13 i (disc (M 22 v) (M 23 v) (M 13 i) sm)), (acc + ((st ((cdS M v sm i).1) 13 i (disc (M 22 v) (M 23 v) (M 13 i) sm)) 13 i))) := (by rw [cdS, if_pos (by rw [← bil_cg (M := M) (N := (cdS M v sm i).1) (by rw [cdS_f (M := M) (v := v) (s := sm) (f := 5) (by decide) i]), ← cdS_f (M := M) (v := v) (s := sm) (f := 14) (by decide) i]; exact c_5), hacc, st_self])
      exact ih _ _ _ ls (by omega) ⟨(lv_sub hl [3, 4, 5, 0, 1] rfl), (by rw [hstep]), _, (by rw [hstep]; exact hP), hM, hS⟩
