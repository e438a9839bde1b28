/-! the class: invoice -/
theorem PX.addV2 {ac : Nat → ClassId} {dE h0 n : Nat} {α : Nat → Nat → Nat} {M : TS} {G G9 : TG} (hP : PX ac dE h0 α M (n + 1) G) (e : nV M = n) (hn : n ≤ 19) (hA : AdP ac dE G G9 (α 0 2) (α 0 7) (nV M) (α 3) (α 3 n)) : ∃ α9 : Nat → Nat → Nat, PX ac dE h0 α9 (st M 0 22 (nI n + 1)) (n + 1) G9 := by
  subst e
  exact hP.addV hn hA
def kB (M : TS) (r : Nat) (w : Int32) : TS × Int32 := cbS (ruleS M (nV M)) r w (nV M) (nE M)
def kD (M : TS) (r : Nat) (w : Int32) : TS × Int32 := cdS (kB M r w).1 (nV M) (kB M r w).2 (nE M)
def kInv (M : TS) (r : Nat) (w : Int32) : TS := st (st (kD M r w).1 16 (nV M) (kD M r w).2) 0 22 (nI (nV M) + 1)
def K_invoice (M : TS) (x w : Int32) : Int32 × TS × Int32 :=
  if tkOk (nT M) x = false then (1, M, 0) else if tkOk 30 w = false then (2, M, 0) else if 0 ≤ M 1 (tn x) then (3, M, 0) else if anyB (lookedAt M (tn x) w) (nE M) = false ∨ 20 ≤ nI (nV M) then (4, M, 0) else (0, kInv M (tn x) w, nI (nV M))
theorem ruleS_W {M : TS} (h : W0 M) (v : Nat) : W0 (ruleS M v) := h.w rfl rfl rfl rfl rfl rfl rfl rfl rfl
theorem ruleS_B {M : TS} (h : WB M (nV M)) (hn : nV M ≤ 20) : WB (ruleS M (nV M)) (nV M + 1) := ⟨by omega, fun k hk hb => (h.2 k hk hb).elim (fun v hv => ⟨v, by omega, hv.2⟩)⟩
theorem kB_f {M : TS} {r f : Nat} {w : Int32} (h5 : f ≠ 5) (h13 : f ≠ 13) (h14 : f ≠ 14) : (kB M r w).1 f = ruleS M (nV M) f := cbS_f h5 h13 h14 _
theorem kD_f {M : TS} {r f : Nat} {w : Int32} (h13 : f ≠ 13) : (kD M r w).1 f = (kB M r w).1 f := cdS_f h13 _
set_option maxHeartbeats 4000000 in
set_option maxRecDepth 100000 in
theorem c_X4_invoice (l : Launch) (hst : l.stackTraces = false) (A : Nat → Prop) (D : va_G) (ac : Nat → ClassId) (dE : Nat) (G : TG) {h0 : Nat} {α : Nat → Nat → Nat} {M : TS} {nv : Nat} (hP : PX ac dE h0 α M (nV M) G) (hW : W0 M) (hB : WB M (nV M)) (h16 : M 16 (nV M) = 0) (h17 : M 17 (nV M) = 0) (x w : Int32) : vx_Met l yX4_invoice wsX4_invoice ({ frames := 9, cells := 6, slots := 114, locals := 700 } : Room) (va_Pc [.ref h0, .int x, .int w] (tkX A D ac dE G)) (va_Qi (fun (z : Int32) (G9 : TG) => (K_invoice M x w).1 = 0 ∧ (∃ α9 : Nat → Nat → Nat, PX ac dE h0 α9 (K_invoice M x w).2.1 (nV (K_invoice M x w).2.1) G9) ∧ z = (K_invoice M x w).2.2) (fun (G9 : TG) t => tkM A D G9 t.heap) A) (XG (fun E => (E, (K_invoice M x w).1) ∈ ([("java/lang/IndexOutOfBoundsException", 1), ("java/lang/IllegalArgumentException", 2), ("java/lang/UnsupportedOperationException", 3), ("java/lang/IllegalStateException", 4)] : List (String × Int32)))) 6 114 A := by
  refine vx_ofW (cc := cX4_invoice) (maxL := 6) (ret := (some .int)) (by decide) rfl ?_
  intro p e s m args below meth c s₁ B hml hno hv
  obtain ⟨rfl, ⟨hM, hK, hA, hF⟩, hO⟩ := hv
  have hS : va_S A s.heap s.heap [] := va_S.rf
  have hE : tkE s.heap s.heap := tkE.rf
  have hx := B.exec
  have hb := B.bytes
  have hr := B.returns
  have hts := atoms_spec (ws := wsX4_invoice) B.pre
  have hown : s.vm.findClass RX4 = some m.cls := findClass_of_methodNamed B.named
  have hlocks := B.notSynchronized
  have S0 : CallFix p m c cX4_invoice 6 s ([.ref h0, .int x, .int w] : List Value).toArray wsX4_invoice RX4 := ⟨hx, hb, hml, hown, hts⟩
  have inX3 : ∀ w ∈ wsX30, w ∈ wsX4_invoice := by decide +kernel
  have inX4 : ∀ w ∈ wsX40, w ∈ wsX4_invoice := by decide +kernel
  have inX1 : ∀ w ∈ wsX10, w ∈ wsX4_invoice := by decide +kernel
  have hl := lv_entry ([.ref h0, .int x, .int w]) (n := 6) (Nat.le_of_ble_eq_true rfl)
  rw [lg_entry_eq]
  generalize (lg_sl ([.ref h0, .int x, .int w]) ++ List.replicate (6 - (lg_sl ([.ref h0, .int x, .int w])).length) Slot.unset).toArray = ls at hl ⊢
  have hl : lv_has ls 6 [(0, .ref h0), (1, .int x), (2, .int w)] := hl
  have bT := hW.t.2
  have bE := hW.e.2
  have bV := hW.v.2
  refine lv_aload_n hx hb dX4_invoice_0 rfl (lv_at hl 0 rfl) ?_
  refine lv_iload_n hx hb dX4_invoice_1 rfl (lv_at hl 1 rfl) ?_
  refine tk_xVq (As := [.int x]) S0 (c_X4_requireTask l hst A D ac dE _ hP hW x) (cwV 1 hts gX4_invoice_X4_requireTask rfl rfl rfl (by decide +kernel) ⟨Nat.le_of_ble_eq_true rfl, Nat.le_of_ble_eq_true rfl⟩) (tkX.blind) (tkX.at hM hK hA hF hO hS) (tk_recv hK hM hP.h rfl) rfl hl.1 rfl (Nat.le_of_ble_eq_true rfl) dX4_invoice_2 ⟨Nat.le_of_ble_eq_true rfl, Nat.le_of_ble_eq_true rfl⟩ hS hE hno hlocks ⟨Nat.le_of_ble_eq_true rfl, Nat.le_of_ble_eq_true rfl⟩ (fun E h9 => by obtain ⟨rfl, h9⟩ := h9; exact (xl (k := 1) (by rw [K_invoice, if_pos h9]) (by decide +kernel))) (fun r_1 H locs hr_1 hq9 hE hS => ?_)
  have hM := hM.keptE hq9
  obtain ⟨hok, rfl⟩ := hr_1
  have hokc := hok
  obtain ⟨t, ht, rfl⟩ := tkOk_ex (by omega) hokc
  rw [show tn (nI t) = t from nI_clamp (by omega)]
  refine lv_astore_n (lv' := [(3, .ref (α 1 t)), (0, .ref h0), (1, .int (nI t)), (2, .int w)]) hx hb dX4_invoice_5 rfl hl (by decide) rfl (fun ls hl => ?_)
  refine lv_iload_n hx hb dX4_invoice_6 rfl (lv_at hl 3 rfl) ?_
  refine tk_xSv (As := [.int w]) S0 (c_X4_requireWeek l hst A D ac dE _ w) (va_cwS 1 hts gX4_invoice_X4_requireWeek rfl rfl rfl (by decide +kernel) ⟨Nat.le_of_ble_eq_true rfl, Nat.le_of_ble_eq_true rfl⟩) (tkX.blind) (tkX.at hM hK hA hF hO hS) rfl hl.1 rfl (Nat.le_of_ble_eq_true rfl) dX4_invoice_7 ⟨Nat.le_of_ble_eq_true rfl, Nat.le_of_ble_eq_true rfl⟩ hS hE hno hlocks ⟨Nat.le_of_ble_eq_true rfl, Nat.le_of_ble_eq_true rfl⟩ (fun E h9 => by obtain ⟨rfl, h9⟩ := h9; exact (xl (k := 2) (by rw [K_invoice, if_neg (by rw [hok]; decide), if_pos h9]) (by decide +kernel))) (fun H locs hr_2 hq9 hE hS => ?_)
  have hM := hM.keptE hq9
  have hokw := hr_2
  have hokwc := hokw
  obtain ⟨wk, hwk, rfl⟩ := tkOk_ex (by decide) hokwc
  refine lv_aload_n hx hb dX4_invoice_10 rfl (lv_at hl 0 rfl) ?_
  refine tk_get hx hb hts inX3 hown hK hM (hP.t ht) rfl 1 (by decide) (hts (.fieldLink RX4 137 "TicketForge$Task" "parent" "LTicketForge$Task;") (by decide +kernel)) (fun _ h9 => h9) rfl dX4_invoice_11 ?_
  rcases hW.p t ht with hns_3 | ⟨s_3, hqs_3, eqs_3⟩
  · rw [parR_n hns_3]
    refine lv_ifnullN (tgt := 27) hx hb dX4_invoice_14 (by decide) ?_
    refine lv_aload_n hx hb dX4_invoice_27 rfl (lv_at hl 1 rfl) ?_
    refine lv_aload_n hx hb dX4_invoice_28 rfl (lv_at hl 0 rfl) ?_
    refine lv_iload_n hx hb dX4_invoice_29 rfl (lv_at hl 3 rfl) ?_
    refine tk_cVi (As := [.ref (α 1 t), .int (nI wk)]) S0 (c_X4_hasEntryToInvoice l A D ac dE _ hP hW t (nI wk) ht) (cwV 2 hts gX4_invoice_X4_hasEntryToInvoice rfl rfl rfl (by decide +kernel) ⟨Nat.le_of_ble_eq_true rfl, Nat.le_of_ble_eq_true rfl⟩) (tkX.blind) (tkX.at hM hK hA hF hO hS) (tk_recv hK hM hP.h rfl) rfl hl.1 rfl (Nat.le_of_ble_eq_true rfl) dX4_invoice_30 ⟨Nat.le_of_ble_eq_true rfl, Nat.le_of_ble_eq_true rfl⟩ (fun r_4 hr_4 => ?_)
    rcases hr_4 with ⟨rfl, hr_4⟩ | ⟨rfl, hr_4⟩
    · skip
      refine lv_if_eq (tgt := 48) hx hb dX4_invoice_33 (by decide) (fun c_5 => absurd c_5 (by decide)) (fun c_5 => ?_)
      refine lv_aload_n hx hb dX4_invoice_36 rfl (lv_at hl 1 rfl) ?_
      refine tk_get hx hb hts inX4 hown hK hM hP.h rfl 2 (by decide) (hts (.fieldLink RX4 19 "TicketForge" "invoiceList" "Ljava/util/ArrayList;") (by decide +kernel)) (fun _ h9 => h9) rfl dX4_invoice_37 ?_
      refine tk_cVi (As := []) S0 (c_Jx4a65c_size_8abf5 l A D ac dE _ hP.lv) (cwV 0 hts gX4_invoice_Jx4a65c_size_8abf5 rfl rfl rfl (by decide +kernel) ⟨Nat.le_of_ble_eq_true rfl, Nat.le_of_ble_eq_true rfl⟩) (tkX.blind) (tkX.at hM hK hA hF hO hS) (LX.rec hP.lv hK hM) rfl hl.1 rfl (Nat.le_of_ble_eq_true rfl) dX4_invoice_40 ⟨Nat.le_of_ble_eq_true rfl, Nat.le_of_ble_eq_true rfl⟩ (fun r_6 hr_6 => ?_)
      subst hr_6
      refine lv_bipush (v := 20) hx hb dX4_invoice_43 (by decide) ?_
      refine lv_icmp_lt (tgt := 58) hx hb dX4_invoice_45 (by decide) (fun c_7 => ?_) (fun c_7 => ?_)
      · have hn19 : nV M < 20 := (nI_ltI (by omega) (by decide)).mp c_7
        have hP0 := hP
        refine tk_new hx hb hts inX1 tyX1 tyX1_ok hown (hts (.classLink RX4 252 RX1) (by decide +kernel)) (hts (.instantiable RX1 4) (by decide +kernel)) (hts (.initialized RX1) (by decide +kernel)) hK hM hS hA (ci := 4) rfl (fs := [.int 0, .null, .int 0, .int 0]) (by decide) (Nat.le_of_ble_eq_true rfl) (Nat.le_of_ble_eq_true rfl) dX4_invoice_58 (fun d9 H hn9 hz9 hM hS => ?_)
        have hP := hP0.mono (fresh_mono (y := some (.inr (4, [.int 0, .null, .int 0, .int 0]))) hn9)
        refine lv_dup hx hb dX4_invoice_61 rfl ?_
        refine lv_aload_n hx hb dX4_invoice_62 rfl (lv_at hl 1 rfl) ?_
        refine tk_get hx hb hts inX4 hown hK hM hP.h rfl 2 (by decide) (hts (.fieldLink RX4 19 "TicketForge" "invoiceList" "Ljava/util/ArrayList;") (by decide +kernel)) (fun _ h9 => h9) rfl dX4_invoice_63 ?_
        refine tk_cVi (As := []) S0 (c_Jx4a65c_size_8abf5 l A D ac dE _ hP.lv) (cwV 0 hts gX4_invoice_Jx4a65c_size_8abf5 rfl rfl rfl (by decide +kernel) ⟨Nat.le_of_ble_eq_true rfl, Nat.le_of_ble_eq_true rfl⟩) (tkX.blind) (tkX.at hM hK hA hF hO hS) (LX.rec hP.lv hK hM) rfl hl.1 rfl (Nat.le_of_ble_eq_true rfl) dX4_invoice_66 ⟨Nat.le_of_ble_eq_true rfl, Nat.le_of_ble_eq_true rfl⟩ (fun r_8 hr_8 => ?_)
        subst hr_8
        refine lv_aload_n hx hb dX4_invoice_69 rfl (lv_at hl 1 rfl) ?_
        refine tk_get hx hb hts inX4 hown hK hM hP.h rfl 3 (by decide) (hts (.fieldLink RX4 33 "TicketForge" "rules" "LTicketForge$Rules;") (by decide +kernel)) (fun _ h9 => h9) rfl dX4_invoice_70 ?_
        refine va_callq (A1 := A) (free := A) (va_runV (As := []) (rest := [.int (nI (nV M)), .ref d9, .ref d9]) S0 (c_X2_copy l A D ac dE _ hP.ru hP.ra) (cwV 0 hts gX4_invoice_X2_copy rfl rfl rfl (by decide +kernel) ⟨Nat.le_of_ble_eq_true rfl, Nat.le_of_ble_eq_true rfl⟩) ⟨fun a U g mk q => ⟨q.1, tkX.blind U g mk a q.2⟩, tk_recv hK hM hP.ru rfl, fun U hU hW => ⟨rfl, tkX.at hM hK hA hF hO hS U hU hW⟩⟩ rfl rfl hl.1 rfl (lv_room (Nat.le_of_ble_eq_true rfl)) dX4_invoice_73 ⟨Nat.le_of_ble_eq_true rfl, Nat.le_of_ble_eq_true rfl⟩) hS (fun q _ h => h) (fun q h => h) (fun r G2 t9 H locs ht9 _ hp hBB _ _ hS => ?_)
        rw [← ht9] at hS ⊢
        obtain ⟨y9, z9, rfl, hny, hnz, hyz, hy9, hz9b, hk9⟩ := hp
        have hM : tkM A D G2 t9.heap := hBB
        have hd9y : d9 ≠ y9 := fun h9 => by rw [← h9, va_up_self] at hny; cases hny
        have hd9z : d9 ≠ z9 := fun h9 => by rw [← h9, va_up_self] at hnz; cases hnz
        have hnd9 := (hk9 d9 hd9y hd9z).trans (va_up_self _ _ _)
        rw [va_up_ne _ _ (Ne.symm hd9y)] at hny
        rw [va_up_ne _ _ (Ne.symm hd9z)] at hnz
        refine tk_mIv (As := [.int (nI (nV M)), .ref y9]) S0 (c_X1_init l A D ac dE _ hnd9 (nI (nV M)) y9) (cwI 2 hts gX4_invoice_X1_init rfl rfl rfl (hts (.initialized RX1) (by decide +kernel)) (hts (.methodLink RX4 258 yX1_init) (by decide +kernel)) (hts (.instanceMethod yX1_init) (by decide +kernel)) rfl (by decide +kernel) ⟨Nat.le_of_ble_eq_true rfl, Nat.le_of_ble_eq_true rfl⟩) (tkX.blind) (tkX.at hM hK hA hF hO hS) rfl hl.1 rfl (Nat.le_of_ble_eq_true rfl) dX4_invoice_76 ⟨Nat.le_of_ble_eq_true rfl, Nat.le_of_ble_eq_true rfl⟩ hS (fun G9 H locs hG9 hM hS => ?_)
        subst hG9
        have hmono : ∀ a e, G a = some e → va_up G2 d9 (some (.inr (4, [.int (nI (nV M)), .ref y9, .int 0, .int 0]))) a = some e := fun a e h => by
          have n1 : a ≠ d9 := fun z => by rw [z, hn9] at h; cases h
          have n2 : a ≠ y9 := fun z => by rw [z, hny] at h; cases h
          have n3 : a ≠ z9 := fun z => by rw [z, hnz] at h; cases h
          rw [va_up_ne _ _ n1, hk9 a n2 n3, va_up_ne _ _ n1, h]
        have hP := hP0.mono hmono
        refine lv_astore (lv' := [(4, .ref d9), (3, .ref (α 1 t)), (0, .ref h0), (1, .int (nI t)), (2, .int (nI wk))]) hx hb dX4_invoice_79 hl (by decide) rfl (fun ls hl => ?_)
        obtain ⟨γ, hγ1, hγ3, hP⟩ : ∃ γ : Nat → Nat → Nat, γ 1 = α 1 ∧ γ 3 (nV M) = d9 ∧ PX ac dE h0 γ (ruleS M (nV M)) (nV M + 1) _ := ⟨aV α (nV M) d9 y9 z9, rfl, (by show va_up (α 3) (nV M) d9 (nV M) = d9; exact va_up_self _ _ _), hP.newV (f := M 15) hB (va_up_self _ _ _) ((va_up_ne _ _ (Ne.symm hd9y)).trans hy9) ((va_up_ne _ _ (Ne.symm hd9z)).trans hz9b) (fun i hi h9 => by have h8 := hP0.v hi; rw [h9, hn9] at h8; cases h8) (fun h9 => by have h8 := hP0.ru; rw [h9, hny] at h8; cases h8) (fun h9 => by have h8 := hP0.ra; rw [h9, hnz] at h8; cases h8) h16 h17⟩
        have hl : lv_has ls 6 [(4, .ref (γ 3 (nV M))), (0, .ref h0), (1, .int (nI t)), (2, .int (nI wk)), (3, .ref (γ 1 t))] := by
          rw [hγ3, hγ1]
          exact lv_sub hl [0, 2, 3, 4, 1] rfl
        have hW1 := ruleS_W hW (nV M)
        have hB1 := ruleS_B hB (by omega)
        refine lv_aload_n hx hb dX4_invoice_81 rfl (lv_at hl 1 rfl) ?_
        refine lv_aload hx hb dX4_invoice_82 (lv_at hl 0 rfl) ?_
        refine lv_aload_n hx hb dX4_invoice_84 rfl (lv_at hl 4 rfl) ?_
        refine lv_iload_n hx hb dX4_invoice_85 rfl (lv_at hl 3 rfl) ?_
        refine tk_mVi (As := [.ref (γ 3 (nV M)), .ref (γ 1 t), .int (nI wk)]) S0 (c_X4_billEntries l A D ac dE _ hP hW1 hB1 (nV M) t (nI wk) (Nat.lt_succ_self _) ht) (cwV 3 hts gX4_invoice_X4_billEntries rfl rfl rfl (by decide +kernel) ⟨Nat.le_of_ble_eq_true rfl, Nat.le_of_ble_eq_true rfl⟩) (tkX.blind) (tkX.at hM hK hA hF hO hS) (tk_recv hK hM hP.h rfl) rfl hl.1 rfl (Nat.le_of_ble_eq_true rfl) dX4_invoice_86 ⟨Nat.le_of_ble_eq_true rfl, Nat.le_of_ble_eq_true rfl⟩ hS (fun sm G H locs hp hM hS => ?_)
        obtain ⟨hP, hsm⟩ := hp
        have hP : PX ac dE h0 γ (kB M t (nI wk)).1 (nV M + 1) G := hP
        have hsm : sm = (kB M t (nI wk)).2 := hsm
        have eC : (kB M t (nI wk)).1 0 = M 0 := kB_f (by decide) (by decide) (by decide)
        have hW2 : W0 (kB M t (nI wk)).1 := cbS_W hW1 _ _ _ _
        have hB2 : WB (kB M t (nI wk)).1 (nV M + 1) := cbS_B hB1 (Nat.lt_succ_self _) _
        refine lv_istore (lv' := [(5, .int sm), (4, .ref (γ 3 (nV M))), (0, .ref h0), (1, .int (nI t)), (2, .int (nI wk)), (3, .ref (γ 1 t))]) hx hb dX4_invoice_89 hl (by decide) rfl (fun ls hl => ?_)
        refine lv_aload hx hb dX4_invoice_91 (lv_at hl 1 rfl) ?_
        refine lv_aload_n hx hb dX4_invoice_93 rfl (lv_at hl 2 rfl) ?_
        refine lv_aload hx hb dX4_invoice_94 (lv_at hl 1 rfl) ?_
        refine lv_iload hx hb dX4_invoice_96 (lv_at hl 0 rfl) ?_
        refine tk_mVi (As := [.ref (γ 3 (nV M)), .int sm]) S0 (c_X4_discountPrices l A D ac dE _ hP hW2 hB2 (nV M) sm (Nat.lt_succ_self _)) (cwV 2 hts gX4_invoice_X4_discountPrices rfl rfl rfl (by decide +kernel) ⟨Nat.le_of_ble_eq_true rfl, Nat.le_of_ble_eq_true rfl⟩) (tkX.blind) (tkX.at hM hK hA hF hO hS) (tk_recv hK hM hP.h rfl) rfl hl.1 rfl (Nat.le_of_ble_eq_true rfl) dX4_invoice_98 ⟨Nat.le_of_ble_eq_true rfl, Nat.le_of_ble_eq_true rfl⟩ hS (fun tot G H locs hp hM hS => ?_)
        rw [hsm, show nE (kB M t (nI wk)).1 = nE M from nE_cg eC] at hp
        obtain ⟨hP, htot⟩ := hp
        have hP : PX ac dE h0 γ (kD M t (nI wk)).1 (nV M + 1) G := hP
        have htot : tot = (kD M t (nI wk)).2 := htot
        refine tk_put (ty := .int) hx hb hts inX1 tyX1 tyX1_ok nmX1 hown hK hM hS (hP.v (Nat.lt_succ_self _)) rfl 2 (by decide) (hts (.fieldLink RX4 269 "TicketForge$Invoice" "total" "I") (by decide +kernel)) (fun _ h9 => h9) rfl (by decide +kernel) rfl rfl (Nat.le_of_ble_eq_true rfl) dX4_invoice_101 (fun H locs hM hS => ?_)
        have hP := hP.i2 (Nat.lt_succ_self _) (v := tot)
        have eV9 : nV (st (kD M t (nI wk)).1 16 (nV M) tot) = nV M := nV_cg ((kD_f (by decide)).trans eC)
        refine lv_aload_n hx hb dX4_invoice_104 rfl (lv_at hl 2 rfl) ?_
        refine tk_get hx hb hts inX4 hown hK hM hP.h rfl 2 (by decide) (hts (.fieldLink RX4 19 "TicketForge" "invoiceList" "Ljava/util/ArrayList;") (by decide +kernel)) (fun _ h9 => h9) rfl dX4_invoice_105 ?_
        refine lv_aload hx hb dX4_invoice_108 (lv_at hl 1 rfl) ?_
        refine tk_mVi (As := [.ref (γ 3 (nV M))]) S0 (c_Jx4a65c_add_9ea2d l A D ac dE _ hP.lv (by omega) ⟨4, _, _, _, _, hP.v (Nat.lt_succ_self _), rfl, by decide⟩ (fun i hi => ⟨4, _, _, _, _, hP.v (show i < nV M + 1 by omega), rfl, by decide⟩)) (cwV 1 hts gX4_invoice_Jx4a65c_add_9ea2d rfl rfl rfl (by decide +kernel) ⟨Nat.le_of_ble_eq_true rfl, Nat.le_of_ble_eq_true rfl⟩) (tkX.blind) (tkX.at hM hK hA hF hO hS) (LX.rec hP.lv hK hM) rfl hl.1 rfl (Nat.le_of_ble_eq_true rfl) dX4_invoice_110 ⟨Nat.le_of_ble_eq_true rfl, Nat.le_of_ble_eq_true rfl⟩ hS (fun r_9 G H locs hp hM hS => ?_)
        obtain ⟨rfl, hAd⟩ := hp
        have hAd2 := hAd
        obtain ⟨d8, hL8, h28, h38⟩ := hAd2
        have hd9 := kp_O hP.lv h28 h38 (hP.v (Nat.lt_succ_self _)) (by decide)
        obtain ⟨α9, hP⟩ := hP.addV2 eV9 (by omega) hAd
        have eV8 : nV M + 1 = nV (st (st (kD M t (nI wk)).1 16 (nV M) tot) 0 22 (nI (nV M) + 1)) := by
          show _ = (st _ 0 22 (nI (nV M) + 1) 0 22).toNatClampNeg
          rw [st_self, nI_1, nI_clamp (by omega)]
        refine lv_pop hx hb dX4_invoice_113 rfl ?_
        refine lv_aload hx hb dX4_invoice_114 (lv_at hl 1 rfl) ?_
        refine tk_get hx hb hts inX1 hown hK hM hd9 rfl 0 (by decide) (hts (.fieldLink RX4 272 "TicketForge$Invoice" "number" "I") (by decide +kernel)) (fun _ h9 => h9) rfl dX4_invoice_116 ?_
        refine vx_ret ?_
        refine W.widen (k := 6) (n := 114) (Nat.le_of_ble_eq_true rfl) (Nat.le_of_ble_eq_true rfl) ?_
        have eS : K_invoice M (nI t) (nI wk) = (0, (st (st (kD M t (nI wk)).1 16 (nV M) tot) 0 22 (nI (nV M) + 1)), (nI (nV M))) := (by rw [K_invoice, if_neg (by rw [hok]; decide), if_neg (by rw [hokw]; decide), show tn (nI t) = t from nI_clamp (by omega), if_neg (Int32.not_le.mpr hns_3), if_neg (fun h9 => h9.elim (by rw [hr_4]; decide) (Int32.not_le.mpr c_7)), kInv, htot])
        exact W.iret (v := (nI (nV M))) hx hb hr (fun t9 h9 w9 => ⟨⟨(nI (nV M)), _, rfl, (by rw [eS]; exact ⟨rfl, ⟨_, hP.nvE eV8⟩, rfl⟩), (by show tkM A D _ _; rw [h9]; exact hM)⟩, hS.F h9⟩) hS.2.2 dX4_invoice_119
      · skip
        exact tk_th hst hx hb hown (by decide) (hts (.classLink RX4 66 "java/lang/IllegalStateException") (by decide +kernel)) (hts (.initialized "java/lang/IllegalStateException") (by decide +kernel)) (text := "there is no entry to look at, or there are 20 invoices") (by decide) (by decide) (fun w hw => hts w (List.mem_cons_of_mem _ (List.mem_append_left _ (List.mem_append_left _ (List.mem_append_left _ (List.mem_append_right _ hw)))))) ng_70 ot_70 hF hO hS hE (hl.1.trans hml.symm) hno hlocks dX4_invoice_48 dX4_invoice_51 dX4_invoice_52 dX4_invoice_54 dX4_invoice_57 (Nat.le_of_ble_eq_true rfl) (Nat.le_of_ble_eq_true rfl) ⟨Nat.le_of_ble_eq_true rfl, Nat.le_of_ble_eq_true rfl⟩ ⟨Nat.le_of_ble_eq_true rfl, Nat.le_of_ble_eq_true rfl⟩ (xl (k := 4) (by rw [K_invoice, if_neg (by rw [hok]; decide), if_neg (by rw [hokw]; decide), show tn (nI t) = t from nI_clamp (by omega), if_neg (Int32.not_le.mpr hns_3), if_pos (Or.inr (Int32.not_lt.mp c_7))]) (by decide +kernel))
    · skip
      refine lv_if_eq (tgt := 48) hx hb dX4_invoice_33 (by decide) (fun c_10 => ?_) (fun c_10 => absurd (by decide) c_10)
      exact tk_th hst hx hb hown (by decide) (hts (.classLink RX4 66 "java/lang/IllegalStateException") (by decide +kernel)) (hts (.initialized "java/lang/IllegalStateException") (by decide +kernel)) (text := "there is no entry to look at, or there are 20 invoices") (by decide) (by decide) (fun w hw => hts w (List.mem_cons_of_mem _ (List.mem_append_left _ (List.mem_append_left _ (List.mem_append_left _ (List.mem_append_right _ hw)))))) ng_70 ot_70 hF hO hS hE (hl.1.trans hml.symm) hno hlocks dX4_invoice_48 dX4_invoice_51 dX4_invoice_52 dX4_invoice_54 dX4_invoice_57 (Nat.le_of_ble_eq_true rfl) (Nat.le_of_ble_eq_true rfl) ⟨Nat.le_of_ble_eq_true rfl, Nat.le_of_ble_eq_true rfl⟩ ⟨Nat.le_of_ble_eq_true rfl, Nat.le_of_ble_eq_true rfl⟩ (xl (k := 4) (by rw [K_invoice, if_neg (by rw [hok]; decide), if_neg (by rw [hokw]; decide), show tn (nI t) = t from nI_clamp (by omega), if_neg (Int32.not_le.mpr hns_3), if_pos (Or.inl hr_4)]) (by decide +kernel))
  · have hls_3 : s_3 < nT M := Nat.lt_trans hqs_3 ht
    rw [parR_s (by omega) eqs_3]
    refine lv_ifnull hx hb dX4_invoice_14 ?_
    exact tk_th hst hx hb hown (by decide) (hts (.classLink RX4 77 "java/lang/UnsupportedOperationException") (by decide +kernel)) (hts (.initialized "java/lang/UnsupportedOperationException") (by decide +kernel)) (text := "the task has a parent") (by decide) (by decide) (fun w hw => hts w (List.mem_cons_of_mem _ (List.mem_append_left _ (List.mem_append_left _ (List.mem_append_left _ (List.mem_append_left _ (List.mem_append_right _ hw))))))) ng_81 ot_81 hF hO hS hE (hl.1.trans hml.symm) hno hlocks dX4_invoice_17 dX4_invoice_20 dX4_invoice_21 dX4_invoice_23 dX4_invoice_26 (Nat.le_of_ble_eq_true rfl) (Nat.le_of_ble_eq_true rfl) ⟨Nat.le_of_ble_eq_true rfl, Nat.le_of_ble_eq_true rfl⟩ ⟨Nat.le_of_ble_eq_true rfl, Nat.le_of_ble_eq_true rfl⟩ (xl (k := 3) (by rw [K_invoice, if_neg (by rw [hok]; decide), if_neg (by rw [hokw]; decide), show tn (nI t) = t from nI_clamp (by omega), if_pos (by rw [eqs_3]; exact nI_pos' (by omega))]) (by decide +kernel))
