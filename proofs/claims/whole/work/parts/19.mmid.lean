/-! CONTRACTS OF THE REFERENCE: missLine, compute, trouble, next -/
set_option maxHeartbeats 4000000 in
set_option maxRecDepth 100000 in
theorem K_Mo_compute {l : Launch} {G : GT} (g : MOK l G) (σ : MS) (i : Int32) (h : vp_in i 24) (hq : okM (mq σ (ix i))) (hf : ∀ j, j < 4 → fp_fin (mF σ 1 j)) (hzt : trF σ (mq σ (ix i)) = 0) : cx_M l y_Mo_compute (.code y_Mo_compute b_Mo_compute 10 none) 1 25 (gA G) [.ref (gad G 20), .int i] (Mw G σ) (Mv G (fun u => u = cpM σ (mq σ (ix i)))) (Tn) := by
  refine cx_of (by decide +kernel) ?_
  intro p e s m below meth c s₁ B hml ht hc
  have hx := B.exec
  have hb := B.bytes
  have hr := B.returns
  have hown : s.vm.findClass R_Mo = some m.cls := findClass_of_methodNamed B.named
  have hlocks := B.notSynchronized
  have hT := g.tb hc
  have hK := g.k hc
  have hD := g.d (τ := σ)
  have hS : va_S (gA G) s.heap s.heap [] := va_S.rf
  have hP := hc.2.2
  have hl := lv_entry ([.ref (gad G 20), .int i]) (n := 10) (Nat.le_of_ble_eq_true rfl)
  rw [lg_entry_eq]
  generalize (lg_sl ([.ref (gad G 20), .int i]) ++ List.replicate (10 - (lg_sl ([.ref (gad G 20), .int i])).length) Slot.unset).toArray = ls at hl ⊢
  have hl : lv_has ls 10 [(0, .ref (gad G 20)), (1, .int i)] := hl
  have hadr : inF ((mJ σ 6) i.toNatClampNeg) 6 9 = true → vp_in (((mJ σ 0) ((mJ σ 8) i.toNatClampNeg).toNatClampNeg) + ((mJ σ 10) i.toNatClampNeg)) 48 := fun ho => ad_in (q := mq σ (ix i)) hzt ho
  refine lv_aload_n hx hb d_Mo_compute_0 rfl (lv_at hl 0 rfl) ?_
  refine va_get (D := gD G) (ci := 7) (v := .ref (gad G 21)) (C := R_Mo) (T := F_Mo) (N := 29) hx hb (wl_Mo hT) (fun _ h9 => h9) hown hK hP 0 rfl rfl 0 (by decide) (k_570 hT) (fun _ h9 => h9) rfl d_Mo_compute_1 ?_
  refine lv_iload_n hx hb d_Mo_compute_4 rfl (lv_at hl 1 rfl) ?_
  refine va_iald (f := (mJ σ 6)) hx hb hK hP 1 0 rfl rfl (h) d_Mo_compute_5 ?_
  refine lv_istore_n (lv' := [(2, .int ((mJ σ 6) i.toNatClampNeg)), (0, .ref (gad G 20)), (1, .int i)]) hx hb d_Mo_compute_6 rfl hl (by decide) rfl (fun ls hl => ?_)
  refine lv_aload_n hx hb d_Mo_compute_7 rfl (lv_at hl 1 rfl) ?_
  refine va_get (D := gD G) (ci := 7) (v := .ref (gad G 26)) (C := R_Mo) (T := F_Mo) (N := 29) hx hb (wl_Mo hT) (fun _ h9 => h9) hown hK hP 0 rfl rfl 5 (by decide) (k_575 hT) (fun _ h9 => h9) rfl d_Mo_compute_8 ?_
  refine lv_aload_n hx hb d_Mo_compute_11 rfl (lv_at hl 1 rfl) ?_
  refine va_get (D := gD G) (ci := 7) (v := .ref (gad G 23)) (C := R_Mo) (T := F_Mo) (N := 29) hx hb (wl_Mo hT) (fun _ h9 => h9) hown hK hP 0 rfl rfl 2 (by decide) (k_572 hT) (fun _ h9 => h9) rfl d_Mo_compute_12 ?_
  refine lv_iload_n hx hb d_Mo_compute_15 rfl (lv_at hl 2 rfl) ?_
  refine va_iald (f := (mJ σ 8)) hx hb hK hP 3 0 rfl rfl (h) d_Mo_compute_16 ?_
  refine va_iald (f := (mJ σ 0)) hx hb hK hP 6 0 rfl rfl (hq.2.2.1) d_Mo_compute_17 ?_
  refine lv_istore_n (lv' := [(3, .int ((mJ σ 0) ((mJ σ 8) i.toNatClampNeg).toNatClampNeg)), (2, .int ((mJ σ 6) i.toNatClampNeg)), (0, .ref (gad G 20)), (1, .int i)]) hx hb d_Mo_compute_18 rfl hl (by decide) rfl (fun ls hl => ?_)
  refine lv_aload_n hx hb d_Mo_compute_19 rfl (lv_at hl 2 rfl) ?_
  refine va_get (D := gD G) (ci := 7) (v := .ref (gad G 26)) (C := R_Mo) (T := F_Mo) (N := 29) hx hb (wl_Mo hT) (fun _ h9 => h9) hown hK hP 0 rfl rfl 5 (by decide) (k_575 hT) (fun _ h9 => h9) rfl d_Mo_compute_20 ?_
  refine lv_aload_n hx hb d_Mo_compute_23 rfl (lv_at hl 2 rfl) ?_
  refine va_get (D := gD G) (ci := 7) (v := .ref (gad G 24)) (C := R_Mo) (T := F_Mo) (N := 29) hx hb (wl_Mo hT) (fun _ h9 => h9) hown hK hP 0 rfl rfl 3 (by decide) (k_573 hT) (fun _ h9 => h9) rfl d_Mo_compute_24 ?_
  refine lv_iload_n hx hb d_Mo_compute_27 rfl (lv_at hl 3 rfl) ?_
  refine va_iald (f := (mJ σ 9)) hx hb hK hP 4 0 rfl rfl (h) d_Mo_compute_28 ?_
  refine va_iald (f := (mJ σ 0)) hx hb hK hP 6 0 rfl rfl (hq.2.2.2) d_Mo_compute_29 ?_
  refine lv_istore (lv' := [(4, .int ((mJ σ 0) ((mJ σ 9) i.toNatClampNeg).toNatClampNeg)), (3, .int ((mJ σ 0) ((mJ σ 8) i.toNatClampNeg).toNatClampNeg)), (2, .int ((mJ σ 6) i.toNatClampNeg)), (0, .ref (gad G 20)), (1, .int i)]) hx hb d_Mo_compute_30 hl (by decide) rfl (fun ls hl => ?_)
  refine lv_aload_n hx hb d_Mo_compute_32 rfl (lv_at hl 3 rfl) ?_
  refine va_get (D := gD G) (ci := 7) (v := .ref (gad G 32)) (C := R_Mo) (T := F_Mo) (N := 29) hx hb (wl_Mo hT) (fun _ h9 => h9) hown hK hP 0 rfl rfl 11 (by decide) (k_581 hT) (fun _ h9 => h9) rfl d_Mo_compute_33 ?_
  refine lv_aload_n hx hb d_Mo_compute_36 rfl (lv_at hl 3 rfl) ?_
  refine va_get (D := gD G) (ci := 7) (v := .ref (gad G 23)) (C := R_Mo) (T := F_Mo) (N := 29) hx hb (wl_Mo hT) (fun _ h9 => h9) hown hK hP 0 rfl rfl 2 (by decide) (k_572 hT) (fun _ h9 => h9) rfl d_Mo_compute_37 ?_
  refine lv_iload_n hx hb d_Mo_compute_40 rfl (lv_at hl 4 rfl) ?_
  refine va_iald (f := (mJ σ 8)) hx hb hK hP 3 0 rfl rfl (h) d_Mo_compute_41 ?_
  refine lv_iconst (v := 4) hx hb d_Mo_compute_42 (by decide) ?_
  refine lv_irem hx hb d_Mo_compute_43 (by decide) ?_
  refine va_dald (f := (mF σ 1)) hx hb hK hP 12 1 rfl rfl (m4_in hq.2.2.1) d_Mo_compute_44 ?_
  refine lv_dstore (lv' := [(5, .double ((mF σ 1) (((mJ σ 8) i.toNatClampNeg) - ((mJ σ 8) i.toNatClampNeg) / 4 * 4).toNatClampNeg)), (4, .int ((mJ σ 0) ((mJ σ 9) i.toNatClampNeg).toNatClampNeg)), (3, .int ((mJ σ 0) ((mJ σ 8) i.toNatClampNeg).toNatClampNeg)), (2, .int ((mJ σ 6) i.toNatClampNeg)), (0, .ref (gad G 20)), (1, .int i)]) hx hb d_Mo_compute_45 hl (by decide) rfl (fun ls hl => ?_)
  refine lv_aload_n hx hb d_Mo_compute_47 rfl (lv_at hl 4 rfl) ?_
  refine va_get (D := gD G) (ci := 7) (v := .ref (gad G 32)) (C := R_Mo) (T := F_Mo) (N := 29) hx hb (wl_Mo hT) (fun _ h9 => h9) hown hK hP 0 rfl rfl 11 (by decide) (k_581 hT) (fun _ h9 => h9) rfl d_Mo_compute_48 ?_
  refine lv_aload_n hx hb d_Mo_compute_51 rfl (lv_at hl 4 rfl) ?_
  refine va_get (D := gD G) (ci := 7) (v := .ref (gad G 24)) (C := R_Mo) (T := F_Mo) (N := 29) hx hb (wl_Mo hT) (fun _ h9 => h9) hown hK hP 0 rfl rfl 3 (by decide) (k_573 hT) (fun _ h9 => h9) rfl d_Mo_compute_52 ?_
  refine lv_iload_n hx hb d_Mo_compute_55 rfl (lv_at hl 5 rfl) ?_
  refine va_iald (f := (mJ σ 9)) hx hb hK hP 4 0 rfl rfl (h) d_Mo_compute_56 ?_
  refine lv_iconst (v := 4) hx hb d_Mo_compute_57 (by decide) ?_
  refine lv_irem hx hb d_Mo_compute_58 (by decide) ?_
  refine va_dald (f := (mF σ 1)) hx hb hK hP 12 1 rfl rfl (m4_in hq.2.2.2) d_Mo_compute_59 ?_
  refine lv_dstore (lv' := [(7, .double ((mF σ 1) (((mJ σ 9) i.toNatClampNeg) - ((mJ σ 9) i.toNatClampNeg) / 4 * 4).toNatClampNeg)), (5, .double ((mF σ 1) (((mJ σ 8) i.toNatClampNeg) - ((mJ σ 8) i.toNatClampNeg) / 4 * 4).toNatClampNeg)), (4, .int ((mJ σ 0) ((mJ σ 9) i.toNatClampNeg).toNatClampNeg)), (3, .int ((mJ σ 0) ((mJ σ 8) i.toNatClampNeg).toNatClampNeg)), (2, .int ((mJ σ 6) i.toNatClampNeg)), (0, .ref (gad G 20)), (1, .int i)]) hx hb d_Mo_compute_60 hl (by decide) rfl (fun ls hl => ?_)
  refine lv_iload_n hx hb d_Mo_compute_62 rfl (lv_at hl 3 rfl) ?_
  refine lv_aload_n hx hb d_Mo_compute_63 rfl (lv_at hl 5 rfl) ?_
  refine va_get (D := gD G) (ci := 7) (v := .ref (gad G 25)) (C := R_Mo) (T := F_Mo) (N := 29) hx hb (wl_Mo hT) (fun _ h9 => h9) hown hK hP 0 rfl rfl 4 (by decide) (k_574 hT) (fun _ h9 => h9) rfl d_Mo_compute_64 ?_
  refine lv_iload_n hx hb d_Mo_compute_67 rfl (lv_at hl 6 rfl) ?_
  refine va_iald (f := (mJ σ 10)) hx hb hK hP 5 0 rfl rfl (h) d_Mo_compute_68 ?_
  refine lv_iadd hx hb d_Mo_compute_69 ?_
  refine lv_istore (lv' := [(9, .int (((mJ σ 0) ((mJ σ 8) i.toNatClampNeg).toNatClampNeg) + ((mJ σ 10) i.toNatClampNeg))), (7, .double ((mF σ 1) (((mJ σ 9) i.toNatClampNeg) - ((mJ σ 9) i.toNatClampNeg) / 4 * 4).toNatClampNeg)), (5, .double ((mF σ 1) (((mJ σ 8) i.toNatClampNeg) - ((mJ σ 8) i.toNatClampNeg) / 4 * 4).toNatClampNeg)), (4, .int ((mJ σ 0) ((mJ σ 9) i.toNatClampNeg).toNatClampNeg)), (3, .int ((mJ σ 0) ((mJ σ 8) i.toNatClampNeg).toNatClampNeg)), (2, .int ((mJ σ 6) i.toNatClampNeg)), (0, .ref (gad G 20)), (1, .int i)]) hx hb d_Mo_compute_70 hl (by decide) rfl (fun ls hl => ?_)
  refine lv_iload_n hx hb d_Mo_compute_72 rfl (lv_at hl 5 rfl) ?_
  refine lv_iconst (v := 1) hx hb d_Mo_compute_73 (by decide) ?_
  refine lv_icmp_ne (tgt := 95) hx hb d_Mo_compute_74 (by decide) (fun c74 => ?_) (fun c74 => ?_)
  · refine lv_iload_n hx hb d_Mo_compute_95 rfl (lv_at hl 5 rfl) ?_
    refine lv_iconst (v := 2) hx hb d_Mo_compute_96 (by decide) ?_
    refine lv_icmp_ne (tgt := 114) hx hb d_Mo_compute_97 (by decide) (fun c97 => ?_) (fun c97 => ?_)
    · refine lv_iload_n hx hb d_Mo_compute_114 rfl (lv_at hl 5 rfl) ?_
      refine lv_iconst (v := 3) hx hb d_Mo_compute_115 (by decide) ?_
      refine lv_icmp_ne (tgt := 133) hx hb d_Mo_compute_116 (by decide) (fun c116 => ?_) (fun c116 => ?_)
      · refine lv_iload_n hx hb d_Mo_compute_133 rfl (lv_at hl 5 rfl) ?_
        refine lv_iconst (v := 4) hx hb d_Mo_compute_134 (by decide) ?_
        refine lv_icmp_ne (tgt := 152) hx hb d_Mo_compute_135 (by decide) (fun c135 => ?_) (fun c135 => ?_)
        · refine lv_iload_n hx hb d_Mo_compute_152 rfl (lv_at hl 5 rfl) ?_
          refine lv_iconst (v := 5) hx hb d_Mo_compute_153 (by decide) ?_
          refine lv_icmp_ne (tgt := 178) hx hb d_Mo_compute_154 (by decide) (fun c154 => ?_) (fun c154 => ?_)
          · refine lv_iload_n hx hb d_Mo_compute_178 rfl (lv_at hl 5 rfl) ?_
            refine lv_bipush (v := 6) hx hb d_Mo_compute_179 (by decide) ?_
            refine lv_icmp_ne (tgt := 202) hx hb d_Mo_compute_181 (by decide) (fun c181 => ?_) (fun c181 => ?_)
            · refine lv_iload_n hx hb d_Mo_compute_202 rfl (lv_at hl 5 rfl) ?_
              refine lv_bipush (v := 7) hx hb d_Mo_compute_203 (by decide) ?_
              refine lv_icmp_ne (tgt := 218) hx hb d_Mo_compute_205 (by decide) (fun c205 => ?_) (fun c205 => ?_)
              · refine lv_iload_n hx hb d_Mo_compute_218 rfl (lv_at hl 5 rfl) ?_
                refine lv_bipush (v := 8) hx hb d_Mo_compute_219 (by decide) ?_
                refine lv_icmp_ne (tgt := 244) hx hb d_Mo_compute_221 (by decide) (fun c221 => ?_) (fun c221 => ?_)
                · refine lv_iload_n hx hb d_Mo_compute_244 rfl (lv_at hl 5 rfl) ?_
                  refine lv_bipush (v := 9) hx hb d_Mo_compute_245 (by decide) ?_
                  refine lv_icmp_ne (tgt := 259) hx hb d_Mo_compute_247 (by decide) (fun c247 => ?_) (fun c247 => ?_)
                  · refine lv_iload_n hx hb d_Mo_compute_259 rfl (lv_at hl 5 rfl) ?_
                    refine lv_bipush (v := 10) hx hb d_Mo_compute_260 (by decide) ?_
                    refine lv_bipush (v := 13) hx hb d_Mo_compute_262 (by decide) ?_
                    refine cx_S (n := 3) (As := [.int ((mJ σ 6) i.toNatClampNeg), .int 10, .int 13]) (rest := []) ⟨hx, hb, hml, hown, fun _ h9 => nomatch h9⟩ (K_Mo_in g σ ((mJ σ 6) i.toNatClampNeg) 10 13 ) (k_666 hT) (k_667 hT) (k_668 hT) (k_9 hT) rfl (by decide +kernel) (hc.at g hS hP) ⟨by decide, by decide⟩ ⟨by decide, by decide⟩ hl.1 (Nat.le_of_ble_eq_true rfl) d_Mo_compute_264 (fun _ h9 => h9) hS (fun _ _ _ _ _ _ _ h9 => h9.elim) (fun v t H locs ht9 hRt hz hk hS => ?_)
                    obtain ⟨r, u, rfl, ⟨er, eu⟩, hP⟩ := hRt
                    subst er
                    rw [eu, ht9] at hP
                    have hD : va_D (gA G) (mw G σ) := g.d
                    refine W.eq (g2 := F0 m 267 ls [.int (b2i (inF ((mJ σ 6) i.toNatClampNeg) 10 13))]) rfl ?_
                    refine lv_if_eq (tgt := 292) hx hb d_Mo_compute_267 (by decide) (fun c267 => ?_) (fun c267 => ?_)
                    · have c267 := b2i0 c267
                      refine lv_iload_n hx hb d_Mo_compute_292 rfl (lv_at hl 5 rfl) ?_
                      refine lv_bipush (v := 14) hx hb d_Mo_compute_293 (by decide) ?_
                      refine lv_icmp_ne (tgt := 321) hx hb d_Mo_compute_295 (by decide) (fun c295 => ?_) (fun c295 => ?_)
                      · refine lv_iload_n hx hb d_Mo_compute_321 rfl (lv_at hl 5 rfl) ?_
                        refine lv_bipush (v := 15) hx hb d_Mo_compute_322 (by decide) ?_
                        refine lv_icmp_ne (tgt := 342) hx hb d_Mo_compute_324 (by decide) (fun c324 => ?_) (fun c324 => ?_)
                        · refine lv_iload_n hx hb d_Mo_compute_342 rfl (lv_at hl 5 rfl) ?_
                          refine lv_bipush (v := 16) hx hb d_Mo_compute_343 (by decide) ?_
                          refine lv_icmp_ne (tgt := 361) hx hb d_Mo_compute_345 (by decide) (fun c345 => ?_) (fun c345 => ?_)
                          · exact mend_v (u := σ) hx hb hr hlocks hS hP d_Mo_compute_361 (by unfold cpM; (rw [if_neg (show ¬ mq σ (ix i) 0 = 1 from c74), if_neg (show ¬ mq σ (ix i) 0 = 2 from c97), if_neg (show ¬ mq σ (ix i) 0 = 3 from c116), if_neg (show ¬ mq σ (ix i) 0 = 4 from c135), if_neg (show ¬ mq σ (ix i) 0 = 5 from c154), if_neg (show ¬ mq σ (ix i) 0 = 6 from c181), if_neg (show ¬ mq σ (ix i) 0 = 7 from c205), if_neg (show ¬ mq σ (ix i) 0 = 8 from c221), if_neg (show ¬ mq σ (ix i) 0 = 9 from c247), if_neg (show ¬ inF (mq σ (ix i) 0) 10 13 = true from fun k9 => Bool.noConfusion (c267.symm.trans k9)), if_neg (show ¬ mq σ (ix i) 0 = 14 from c295), if_neg (show ¬ mq σ (ix i) 0 = 15 from c324), if_neg (show ¬ mq σ (ix i) 0 = 16 from c345)]) <;> rfl)
                          · refine lv_aload_n hx hb d_Mo_compute_348 rfl (lv_at hl 6 rfl) ?_
                            refine lv_aload_n hx hb d_Mo_compute_349 rfl (lv_at hl 6 rfl) ?_
                            refine va_get (D := gD G) (ci := 7) (v := .ref (gad G 22)) (C := R_Mo) (T := F_Mo) (N := 29) hx hb (wl_Mo hT) (fun _ h9 => h9) hown hK hP 0 rfl rfl 1 (by decide) (k_571 hT) (fun _ h9 => h9) rfl d_Mo_compute_350 ?_
                            refine lv_iload_n hx hb d_Mo_compute_353 rfl (lv_at hl 7 rfl) ?_
                            refine va_iald (f := (mJ σ 7)) hx hb hK hP 2 0 rfl rfl (h) d_Mo_compute_354 ?_
                            refine lv_dload hx hb d_Mo_compute_355 (lv_at hl 2 rfl) ?_
                            refine lv_d2i hx hb d_Mo_compute_357 ?_
                            refine cx_V (n := 2) (C := R_Mo) (As := [.int ((mJ σ 7) i.toNatClampNeg), .int (FP.d2i ((mF σ 1) (((mJ σ 8) i.toNatClampNeg) - ((mJ σ 8) i.toNatClampNeg) / 4 * 4).toNatClampNeg))]) (rest := []) ⟨hx, hb, hml, hown, fun _ h9 => nomatch h9⟩ (K_Mo_put g σ ((mJ σ 7) i.toNatClampNeg) (FP.d2i ((mF σ 1) (((mJ σ 8) i.toNatClampNeg) - ((mJ σ 8) i.toNatClampNeg) / 4 * 4).toNatClampNeg)) hq.2.1) (k_732 hT) (k_734 hT) (ks_30 hT) (k_735 hT) (k_9 hT) rfl (by decide +kernel) (va_recv hK hP (ci := 7) (q0 := 0) rfl rfl) (hc.at g hS hP) ⟨by decide, by decide⟩ ⟨by decide, by decide⟩ hl.1 (Nat.le_of_ble_eq_true rfl) d_Mo_compute_358 (fun _ h9 => h9) hS (fun _ _ _ _ _ _ _ h9 => h9.elim) (fun v t H locs ht9 hRt hz hk hS => ?_)
                            obtain ⟨u, rfl, eu, hP⟩ := hRt
                            rw [eu, ht9] at hP
                            have hD : va_D (gA G) (mw G (puF σ ((mJ σ 7) i.toNatClampNeg) (FP.d2i ((mF σ 1) (((mJ σ 8) i.toNatClampNeg) - ((mJ σ 8) i.toNatClampNeg) / 4 * 4).toNatClampNeg)))) := g.d
                            refine W.eq (g2 := F0 m 361 ls []) rfl ?_
                            exact mend_v (u := (puF σ ((mJ σ 7) i.toNatClampNeg) (FP.d2i ((mF σ 1) (((mJ σ 8) i.toNatClampNeg) - ((mJ σ 8) i.toNatClampNeg) / 4 * 4).toNatClampNeg)))) hx hb hr hlocks hS hP d_Mo_compute_361 (by unfold cpM; (rw [if_neg (show ¬ mq σ (ix i) 0 = 1 from c74), if_neg (show ¬ mq σ (ix i) 0 = 2 from c97), if_neg (show ¬ mq σ (ix i) 0 = 3 from c116), if_neg (show ¬ mq σ (ix i) 0 = 4 from c135), if_neg (show ¬ mq σ (ix i) 0 = 5 from c154), if_neg (show ¬ mq σ (ix i) 0 = 6 from c181), if_neg (show ¬ mq σ (ix i) 0 = 7 from c205), if_neg (show ¬ mq σ (ix i) 0 = 8 from c221), if_neg (show ¬ mq σ (ix i) 0 = 9 from c247), if_neg (show ¬ inF (mq σ (ix i) 0) 10 13 = true from fun k9 => Bool.noConfusion (c267.symm.trans k9)), if_neg (show ¬ mq σ (ix i) 0 = 14 from c295), if_neg (show ¬ mq σ (ix i) 0 = 15 from c324), if_pos (show mq σ (ix i) 0 = 16 from c345)]) <;> rfl)
                        · refine lv_aload_n hx hb d_Mo_compute_327 rfl (lv_at hl 6 rfl) ?_
                          refine va_get (D := gD G) (ci := 7) (v := .ref (gad G 32)) (C := R_Mo) (T := F_Mo) (N := 29) hx hb (wl_Mo hT) (fun _ h9 => h9) hown hK hP 0 rfl rfl 11 (by decide) (k_581 hT) (fun _ h9 => h9) rfl d_Mo_compute_328 ?_
                          refine lv_aload_n hx hb d_Mo_compute_331 rfl (lv_at hl 6 rfl) ?_
                          refine va_get (D := gD G) (ci := 7) (v := .ref (gad G 22)) (C := R_Mo) (T := F_Mo) (N := 29) hx hb (wl_Mo hT) (fun _ h9 => h9) hown hK hP 0 rfl rfl 1 (by decide) (k_571 hT) (fun _ h9 => h9) rfl d_Mo_compute_332 ?_
                          refine lv_iload_n hx hb d_Mo_compute_335 rfl (lv_at hl 7 rfl) ?_
                          refine va_iald (f := (mJ σ 7)) hx hb hK hP 2 0 rfl rfl (h) d_Mo_compute_336 ?_
                          refine lv_iconst (v := 4) hx hb d_Mo_compute_337 (by decide) ?_
                          refine lv_irem hx hb d_Mo_compute_338 (by decide) ?_
                          refine lv_iload_n hx hb d_Mo_compute_339 rfl (lv_at hl 4 rfl) ?_
                          refine lv_i2d hx hb d_Mo_compute_340 ?_
                          refine va_dast (f := (mF σ 1)) hx hb hK hP hD hS 12 1 rfl rfl (m4_in hq.2.1) d_Mo_compute_341 (fun H locs hP hD hS => ?_)
                          have hP : va_P (gD G) classes (mw G (tF σ 1 (vf_upd (mF σ 1) (((mJ σ 7) i.toNatClampNeg) - ((mJ σ 7) i.toNatClampNeg) / 4 * 4).toNatClampNeg (FP.i2d ((mJ σ 0) ((mJ σ 8) i.toNatClampNeg).toNatClampNeg))))) H := hP
                          have hD : va_D (gA G) (mw G (tF σ 1 (vf_upd (mF σ 1) (((mJ σ 7) i.toNatClampNeg) - ((mJ σ 7) i.toNatClampNeg) / 4 * 4).toNatClampNeg (FP.i2d ((mJ σ 0) ((mJ σ 8) i.toNatClampNeg).toNatClampNeg))))) := g.d
                          refine lv_iload_n hx hb d_Mo_compute_342 rfl (lv_at hl 5 rfl) ?_
                          refine lv_bipush (v := 16) hx hb d_Mo_compute_343 (by decide) ?_
                          refine lv_icmp_ne (tgt := 361) hx hb d_Mo_compute_345 (by decide) (fun c345 => ?_) (fun c345 => ?_)
                          · exact mend_v (u := (tF σ 1 (vf_upd (mF σ 1) (((mJ σ 7) i.toNatClampNeg) - ((mJ σ 7) i.toNatClampNeg) / 4 * 4).toNatClampNeg (FP.i2d ((mJ σ 0) ((mJ σ 8) i.toNatClampNeg).toNatClampNeg))))) hx hb hr hlocks hS hP d_Mo_compute_361 (by unfold cpM; (rw [if_neg (show ¬ mq σ (ix i) 0 = 1 from c74), if_neg (show ¬ mq σ (ix i) 0 = 2 from c97), if_neg (show ¬ mq σ (ix i) 0 = 3 from c116), if_neg (show ¬ mq σ (ix i) 0 = 4 from c135), if_neg (show ¬ mq σ (ix i) 0 = 5 from c154), if_neg (show ¬ mq σ (ix i) 0 = 6 from c181), if_neg (show ¬ mq σ (ix i) 0 = 7 from c205), if_neg (show ¬ mq σ (ix i) 0 = 8 from c221), if_neg (show ¬ mq σ (ix i) 0 = 9 from c247), if_neg (show ¬ inF (mq σ (ix i) 0) 10 13 = true from fun k9 => Bool.noConfusion (c267.symm.trans k9)), if_neg (show ¬ mq σ (ix i) 0 = 14 from c295), if_pos (show mq σ (ix i) 0 = 15 from c324)]) <;> rfl)
                          · exact absurd (c324.symm.trans c345) (by decide)
                      · refine lv_aload_n hx hb d_Mo_compute_298 rfl (lv_at hl 6 rfl) ?_
                        refine lv_aload_n hx hb d_Mo_compute_299 rfl (lv_at hl 6 rfl) ?_
                        refine va_get (D := gD G) (ci := 7) (v := .ref (gad G 22)) (C := R_Mo) (T := F_Mo) (N := 29) hx hb (wl_Mo hT) (fun _ h9 => h9) hown hK hP 0 rfl rfl 1 (by decide) (k_571 hT) (fun _ h9 => h9) rfl d_Mo_compute_300 ?_
                        refine lv_iload_n hx hb d_Mo_compute_303 rfl (lv_at hl 7 rfl) ?_
                        refine va_iald (f := (mJ σ 7)) hx hb hK hP 2 0 rfl rfl (h) d_Mo_compute_304 ?_
                        refine lv_dload hx hb d_Mo_compute_305 (lv_at hl 2 rfl) ?_
                        refine lv_dload hx hb d_Mo_compute_307 (lv_at hl 1 rfl) ?_
                        refine lv_dcmp hx hb d_Mo_compute_309 ?_
                        refine lv_if_ge (tgt := 317) hx hb d_Mo_compute_310 (by decide) (fun c310 => ?_) (fun c310 => ?_)
                        · refine lv_iconst (v := 0) hx hb d_Mo_compute_317 (by decide) ?_
                          refine cx_V (n := 2) (C := R_Mo) (As := [.int ((mJ σ 7) i.toNatClampNeg), .int 0]) (rest := []) ⟨hx, hb, hml, hown, fun _ h9 => nomatch h9⟩ (K_Mo_put g σ ((mJ σ 7) i.toNatClampNeg) 0 hq.2.1) (k_732 hT) (k_734 hT) (ks_30 hT) (k_735 hT) (k_9 hT) rfl (by decide +kernel) (va_recv hK hP (ci := 7) (q0 := 0) rfl rfl) (hc.at g hS hP) ⟨by decide, by decide⟩ ⟨by decide, by decide⟩ hl.1 (Nat.le_of_ble_eq_true rfl) d_Mo_compute_318 (fun _ h9 => h9) hS (fun _ _ _ _ _ _ _ h9 => h9.elim) (fun v t H locs ht9 hRt hz hk hS => ?_)
                          obtain ⟨u, rfl, eu, hP⟩ := hRt
                          rw [eu, ht9] at hP
                          have hD : va_D (gA G) (mw G (puF σ ((mJ σ 7) i.toNatClampNeg) 0)) := g.d
                          refine W.eq (g2 := F0 m 321 ls []) rfl ?_
                          refine lv_iload_n hx hb d_Mo_compute_321 rfl (lv_at hl 5 rfl) ?_
                          refine lv_bipush (v := 15) hx hb d_Mo_compute_322 (by decide) ?_
                          refine lv_icmp_ne (tgt := 342) hx hb d_Mo_compute_324 (by decide) (fun c324 => ?_) (fun c324 => ?_)
                          · refine lv_iload_n hx hb d_Mo_compute_342 rfl (lv_at hl 5 rfl) ?_
                            refine lv_bipush (v := 16) hx hb d_Mo_compute_343 (by decide) ?_
                            refine lv_icmp_ne (tgt := 361) hx hb d_Mo_compute_345 (by decide) (fun c345 => ?_) (fun c345 => ?_)
                            · exact mend_v (u := (puF σ ((mJ σ 7) i.toNatClampNeg) 0)) hx hb hr hlocks hS hP d_Mo_compute_361 (by unfold cpM; (rw [if_neg (show ¬ mq σ (ix i) 0 = 1 from c74), if_neg (show ¬ mq σ (ix i) 0 = 2 from c97), if_neg (show ¬ mq σ (ix i) 0 = 3 from c116), if_neg (show ¬ mq σ (ix i) 0 = 4 from c135), if_neg (show ¬ mq σ (ix i) 0 = 5 from c154), if_neg (show ¬ mq σ (ix i) 0 = 6 from c181), if_neg (show ¬ mq σ (ix i) 0 = 7 from c205), if_neg (show ¬ mq σ (ix i) 0 = 8 from c221), if_neg (show ¬ mq σ (ix i) 0 = 9 from c247), if_neg (show ¬ inF (mq σ (ix i) 0) 10 13 = true from fun k9 => Bool.noConfusion (c267.symm.trans k9)), if_pos (show mq σ (ix i) 0 = 14 from c295), if_pos (show (0 ≤ Op.cmpValue (FP.dcmp (mF σ 1 (m4 (mq σ (ix i) 2))) (mF σ 1 (m4 (mq σ (ix i) 3)))) .g) from c310)]) <;> rfl)
                            · exact absurd (c295.symm.trans c345) (by decide)
                          · exact absurd (c295.symm.trans c324) (by decide)
                        · refine lv_iconst (v := 1) hx hb d_Mo_compute_313 (by decide) ?_
                          refine lv_goto (tgt := 318) hx hb d_Mo_compute_314 (by decide) ?_
                          refine cx_V (n := 2) (C := R_Mo) (As := [.int ((mJ σ 7) i.toNatClampNeg), .int 1]) (rest := []) ⟨hx, hb, hml, hown, fun _ h9 => nomatch h9⟩ (K_Mo_put g σ ((mJ σ 7) i.toNatClampNeg) 1 hq.2.1) (k_732 hT) (k_734 hT) (ks_30 hT) (k_735 hT) (k_9 hT) rfl (by decide +kernel) (va_recv hK hP (ci := 7) (q0 := 0) rfl rfl) (hc.at g hS hP) ⟨by decide, by decide⟩ ⟨by decide, by decide⟩ hl.1 (Nat.le_of_ble_eq_true rfl) d_Mo_compute_318 (fun _ h9 => h9) hS (fun _ _ _ _ _ _ _ h9 => h9.elim) (fun v t H locs ht9 hRt hz hk hS => ?_)
                          obtain ⟨u, rfl, eu, hP⟩ := hRt
                          rw [eu, ht9] at hP
                          have hD : va_D (gA G) (mw G (puF σ ((mJ σ 7) i.toNatClampNeg) 1)) := g.d
                          refine W.eq (g2 := F0 m 321 ls []) rfl ?_
                          refine lv_iload_n hx hb d_Mo_compute_321 rfl (lv_at hl 5 rfl) ?_
                          refine lv_bipush (v := 15) hx hb d_Mo_compute_322 (by decide) ?_
                          refine lv_icmp_ne (tgt := 342) hx hb d_Mo_compute_324 (by decide) (fun c324 => ?_) (fun c324 => ?_)
                          · refine lv_iload_n hx hb d_Mo_compute_342 rfl (lv_at hl 5 rfl) ?_
                            refine lv_bipush (v := 16) hx hb d_Mo_compute_343 (by decide) ?_
                            refine lv_icmp_ne (tgt := 361) hx hb d_Mo_compute_345 (by decide) (fun c345 => ?_) (fun c345 => ?_)
                            · exact mend_v (u := (puF σ ((mJ σ 7) i.toNatClampNeg) 1)) hx hb hr hlocks hS hP d_Mo_compute_361 (by unfold cpM; (rw [if_neg (show ¬ mq σ (ix i) 0 = 1 from c74), if_neg (show ¬ mq σ (ix i) 0 = 2 from c97), if_neg (show ¬ mq σ (ix i) 0 = 3 from c116), if_neg (show ¬ mq σ (ix i) 0 = 4 from c135), if_neg (show ¬ mq σ (ix i) 0 = 5 from c154), if_neg (show ¬ mq σ (ix i) 0 = 6 from c181), if_neg (show ¬ mq σ (ix i) 0 = 7 from c205), if_neg (show ¬ mq σ (ix i) 0 = 8 from c221), if_neg (show ¬ mq σ (ix i) 0 = 9 from c247), if_neg (show ¬ inF (mq σ (ix i) 0) 10 13 = true from fun k9 => Bool.noConfusion (c267.symm.trans k9)), if_pos (show mq σ (ix i) 0 = 14 from c295), if_neg (show ¬ (0 ≤ Op.cmpValue (FP.dcmp (mF σ 1 (m4 (mq σ (ix i) 2))) (mF σ 1 (m4 (mq σ (ix i) 3)))) .g) from c310)]) <;> rfl)
                            · exact absurd (c295.symm.trans c345) (by decide)
                          · exact absurd (c295.symm.trans c324) (by decide)
                    · have c267 := b2i1 c267
                      refine lv_aload_n hx hb d_Mo_compute_270 rfl (lv_at hl 6 rfl) ?_
                      refine va_get (D := gD G) (ci := 7) (v := .ref (gad G 32)) (C := R_Mo) (T := F_Mo) (N := 29) hx hb (wl_Mo hT) (fun _ h9 => h9) hown hK hP 0 rfl rfl 11 (by decide) (k_581 hT) (fun _ h9 => h9) rfl d_Mo_compute_271 ?_
                      refine lv_aload_n hx hb d_Mo_compute_274 rfl (lv_at hl 6 rfl) ?_
                      refine va_get (D := gD G) (ci := 7) (v := .ref (gad G 22)) (C := R_Mo) (T := F_Mo) (N := 29) hx hb (wl_Mo hT) (fun _ h9 => h9) hown hK hP 0 rfl rfl 1 (by decide) (k_571 hT) (fun _ h9 => h9) rfl d_Mo_compute_275 ?_
                      refine lv_iload_n hx hb d_Mo_compute_278 rfl (lv_at hl 7 rfl) ?_
                      refine va_iald (f := (mJ σ 7)) hx hb hK hP 2 0 rfl rfl (h) d_Mo_compute_279 ?_
                      refine lv_iconst (v := 4) hx hb d_Mo_compute_280 (by decide) ?_
                      refine lv_irem hx hb d_Mo_compute_281 (by decide) ?_
                      refine lv_aload_n hx hb d_Mo_compute_282 rfl (lv_at hl 6 rfl) ?_
                      refine lv_iload_n hx hb d_Mo_compute_283 rfl (lv_at hl 5 rfl) ?_
                      refine lv_dload hx hb d_Mo_compute_284 (lv_at hl 2 rfl) ?_
                      refine lv_dload hx hb d_Mo_compute_286 (lv_at hl 1 rfl) ?_
                      refine cx_V (n := 3) (C := R_Mo) (As := [.int ((mJ σ 6) i.toNatClampNeg), .double ((mF σ 1) (((mJ σ 8) i.toNatClampNeg) - ((mJ σ 8) i.toNatClampNeg) / 4 * 4).toNatClampNeg), .double ((mF σ 1) (((mJ σ 9) i.toNatClampNeg) - ((mJ σ 9) i.toNatClampNeg) / 4 * 4).toNatClampNeg)]) (rest := [.int (((mJ σ 7) i.toNatClampNeg) - ((mJ σ 7) i.toNatClampNeg) / 4 * 4), .ref (gad G 32)]) ⟨hx, hb, hml, hown, fun _ h9 => nomatch h9⟩ (K_Mo_reckon g σ ((mJ σ 6) i.toNatClampNeg) ((mF σ 1) (((mJ σ 8) i.toNatClampNeg) - ((mJ σ 8) i.toNatClampNeg) / 4 * 4).toNatClampNeg) ((mF σ 1) (((mJ σ 9) i.toNatClampNeg) - ((mJ σ 9) i.toNatClampNeg) / 4 * 4).toNatClampNeg) (hf _ (vp_lt (m4_in hq.2.2.1))) (hf _ (vp_lt (m4_in hq.2.2.2))) (rk_z hzt c267)) (k_699 hT) (k_701 hT) (ks_23 hT) (k_702 hT) (k_9 hT) rfl (by decide +kernel) (va_recv hK hP (ci := 7) (q0 := 0) rfl rfl) (hc.at g hS hP) ⟨by decide, by decide⟩ ⟨by decide, by decide⟩ hl.1 (Nat.le_of_ble_eq_true rfl) d_Mo_compute_288 (fun _ h9 => h9) hS (fun _ _ _ _ _ _ _ h9 => h9.elim) (fun v t H locs ht9 hRt hz hk hS => ?_)
                      obtain ⟨r, u, rfl, ⟨er, eu⟩, hP⟩ := hRt
                      subst er
                      rw [eu, ht9] at hP
                      have hD : va_D (gA G) (mw G σ) := g.d
                      refine W.eq (g2 := F0 m 291 ls [.double (ocF ((mJ σ 6) i.toNatClampNeg) ((mF σ 1) (((mJ σ 8) i.toNatClampNeg) - ((mJ σ 8) i.toNatClampNeg) / 4 * 4).toNatClampNeg) ((mF σ 1) (((mJ σ 9) i.toNatClampNeg) - ((mJ σ 9) i.toNatClampNeg) / 4 * 4).toNatClampNeg)), .int (((mJ σ 7) i.toNatClampNeg) - ((mJ σ 7) i.toNatClampNeg) / 4 * 4), .ref (gad G 32)]) rfl ?_
                      refine va_dast (f := (mF σ 1)) hx hb hK hP hD hS 12 1 rfl rfl (m4_in hq.2.1) d_Mo_compute_291 (fun H locs hP hD hS => ?_)
                      have hP : va_P (gD G) classes (mw G (tF σ 1 (vf_upd (mF σ 1) (((mJ σ 7) i.toNatClampNeg) - ((mJ σ 7) i.toNatClampNeg) / 4 * 4).toNatClampNeg (ocF ((mJ σ 6) i.toNatClampNeg) ((mF σ 1) (((mJ σ 8) i.toNatClampNeg) - ((mJ σ 8) i.toNatClampNeg) / 4 * 4).toNatClampNeg) ((mF σ 1) (((mJ σ 9) i.toNatClampNeg) - ((mJ σ 9) i.toNatClampNeg) / 4 * 4).toNatClampNeg))))) H := hP
                      have hD : va_D (gA G) (mw G (tF σ 1 (vf_upd (mF σ 1) (((mJ σ 7) i.toNatClampNeg) - ((mJ σ 7) i.toNatClampNeg) / 4 * 4).toNatClampNeg (ocF ((mJ σ 6) i.toNatClampNeg) ((mF σ 1) (((mJ σ 8) i.toNatClampNeg) - ((mJ σ 8) i.toNatClampNeg) / 4 * 4).toNatClampNeg) ((mF σ 1) (((mJ σ 9) i.toNatClampNeg) - ((mJ σ 9) i.toNatClampNeg) / 4 * 4).toNatClampNeg))))) := g.d
                      refine lv_iload_n hx hb d_Mo_compute_292 rfl (lv_at hl 5 rfl) ?_
                      refine lv_bipush (v := 14) hx hb d_Mo_compute_293 (by decide) ?_
                      refine lv_icmp_ne (tgt := 321) hx hb d_Mo_compute_295 (by decide) (fun c295 => ?_) (fun c295 => ?_)
                      · refine lv_iload_n hx hb d_Mo_compute_321 rfl (lv_at hl 5 rfl) ?_
                        refine lv_bipush (v := 15) hx hb d_Mo_compute_322 (by decide) ?_
                        refine lv_icmp_ne (tgt := 342) hx hb d_Mo_compute_324 (by decide) (fun c324 => ?_) (fun c324 => ?_)
                        · refine lv_iload_n hx hb d_Mo_compute_342 rfl (lv_at hl 5 rfl) ?_
                          refine lv_bipush (v := 16) hx hb d_Mo_compute_343 (by decide) ?_
                          refine lv_icmp_ne (tgt := 361) hx hb d_Mo_compute_345 (by decide) (fun c345 => ?_) (fun c345 => ?_)
                          · exact mend_v (u := (tF σ 1 (vf_upd (mF σ 1) (((mJ σ 7) i.toNatClampNeg) - ((mJ σ 7) i.toNatClampNeg) / 4 * 4).toNatClampNeg (ocF ((mJ σ 6) i.toNatClampNeg) ((mF σ 1) (((mJ σ 8) i.toNatClampNeg) - ((mJ σ 8) i.toNatClampNeg) / 4 * 4).toNatClampNeg) ((mF σ 1) (((mJ σ 9) i.toNatClampNeg) - ((mJ σ 9) i.toNatClampNeg) / 4 * 4).toNatClampNeg))))) hx hb hr hlocks hS hP d_Mo_compute_361 (by unfold cpM; (rw [if_neg (show ¬ mq σ (ix i) 0 = 1 from c74), if_neg (show ¬ mq σ (ix i) 0 = 2 from c97), if_neg (show ¬ mq σ (ix i) 0 = 3 from c116), if_neg (show ¬ mq σ (ix i) 0 = 4 from c135), if_neg (show ¬ mq σ (ix i) 0 = 5 from c154), if_neg (show ¬ mq σ (ix i) 0 = 6 from c181), if_neg (show ¬ mq σ (ix i) 0 = 7 from c205), if_neg (show ¬ mq σ (ix i) 0 = 8 from c221), if_neg (show ¬ mq σ (ix i) 0 = 9 from c247), if_pos (show inF (mq σ (ix i) 0) 10 13 = true from c267)]) <;> rfl)
                          · exact absurd c267 (by rw [c345]; decide)
                        · exact absurd c267 (by rw [c324]; decide)
                      · exact absurd c267 (by rw [c295]; decide)
                  · refine lv_aload_n hx hb d_Mo_compute_250 rfl (lv_at hl 6 rfl) ?_
                    refine va_get (D := gD G) (ci := 7) (v := .ref (gad G 33)) (C := R_Mo) (T := F_Mo) (N := 29) hx hb (wl_Mo hT) (fun _ h9 => h9) hown hK hP 0 rfl rfl 12 (by decide) (k_582 hT) (fun _ h9 => h9) rfl d_Mo_compute_251 ?_
                    refine lv_iload hx hb d_Mo_compute_254 (lv_at hl 0 rfl) ?_
                    refine lv_dload hx hb d_Mo_compute_256 (lv_at hl 1 rfl) ?_
                    refine va_dast (f := (mF σ 0)) hx hb hK hP hD hS 13 1 rfl rfl (hadr (by rw [c247]; decide)) d_Mo_compute_258 (fun H locs hP hD hS => ?_)
                    have hP : va_P (gD G) classes (mw G (tF σ 0 (vf_upd (mF σ 0) (((mJ σ 0) ((mJ σ 8) i.toNatClampNeg).toNatClampNeg) + ((mJ σ 10) i.toNatClampNeg)).toNatClampNeg ((mF σ 1) (((mJ σ 9) i.toNatClampNeg) - ((mJ σ 9) i.toNatClampNeg) / 4 * 4).toNatClampNeg)))) H := hP
                    have hD : va_D (gA G) (mw G (tF σ 0 (vf_upd (mF σ 0) (((mJ σ 0) ((mJ σ 8) i.toNatClampNeg).toNatClampNeg) + ((mJ σ 10) i.toNatClampNeg)).toNatClampNeg ((mF σ 1) (((mJ σ 9) i.toNatClampNeg) - ((mJ σ 9) i.toNatClampNeg) / 4 * 4).toNatClampNeg)))) := g.d
                    refine lv_iload_n hx hb d_Mo_compute_259 rfl (lv_at hl 5 rfl) ?_
                    refine lv_bipush (v := 10) hx hb d_Mo_compute_260 (by decide) ?_
                    refine lv_bipush (v := 13) hx hb d_Mo_compute_262 (by decide) ?_
                    refine cx_S (n := 3) (As := [.int ((mJ σ 6) i.toNatClampNeg), .int 10, .int 13]) (rest := []) ⟨hx, hb, hml, hown, fun _ h9 => nomatch h9⟩ (K_Mo_in g (tF σ 0 (vf_upd (mF σ 0) (((mJ σ 0) ((mJ σ 8) i.toNatClampNeg).toNatClampNeg) + ((mJ σ 10) i.toNatClampNeg)).toNatClampNeg ((mF σ 1) (((mJ σ 9) i.toNatClampNeg) - ((mJ σ 9) i.toNatClampNeg) / 4 * 4).toNatClampNeg))) ((mJ σ 6) i.toNatClampNeg) 10 13 ) (k_666 hT) (k_667 hT) (k_668 hT) (k_9 hT) rfl (by decide +kernel) (hc.at g hS hP) ⟨by decide, by decide⟩ ⟨by decide, by decide⟩ hl.1 (Nat.le_of_ble_eq_true rfl) d_Mo_compute_264 (fun _ h9 => h9) hS (fun _ _ _ _ _ _ _ h9 => h9.elim) (fun v t H locs ht9 hRt hz hk hS => ?_)
                    obtain ⟨r, u, rfl, ⟨er, eu⟩, hP⟩ := hRt
                    subst er
                    rw [eu, ht9] at hP
                    have hD : va_D (gA G) (mw G (tF σ 0 (vf_upd (mF σ 0) (((mJ σ 0) ((mJ σ 8) i.toNatClampNeg).toNatClampNeg) + ((mJ σ 10) i.toNatClampNeg)).toNatClampNeg ((mF σ 1) (((mJ σ 9) i.toNatClampNeg) - ((mJ σ 9) i.toNatClampNeg) / 4 * 4).toNatClampNeg)))) := g.d
                    refine W.eq (g2 := F0 m 267 ls [.int (b2i (inF ((mJ σ 6) i.toNatClampNeg) 10 13))]) rfl ?_
                    refine lv_if_eq (tgt := 292) hx hb d_Mo_compute_267 (by decide) (fun c267 => ?_) (fun c267 => ?_)
                    · refine lv_iload_n hx hb d_Mo_compute_292 rfl (lv_at hl 5 rfl) ?_
                      refine lv_bipush (v := 14) hx hb d_Mo_compute_293 (by decide) ?_
                      refine lv_icmp_ne (tgt := 321) hx hb d_Mo_compute_295 (by decide) (fun c295 => ?_) (fun c295 => ?_)
                      · refine lv_iload_n hx hb d_Mo_compute_321 rfl (lv_at hl 5 rfl) ?_
                        refine lv_bipush (v := 15) hx hb d_Mo_compute_322 (by decide) ?_
                        refine lv_icmp_ne (tgt := 342) hx hb d_Mo_compute_324 (by decide) (fun c324 => ?_) (fun c324 => ?_)
                        · refine lv_iload_n hx hb d_Mo_compute_342 rfl (lv_at hl 5 rfl) ?_
                          refine lv_bipush (v := 16) hx hb d_Mo_compute_343 (by decide) ?_
                          refine lv_icmp_ne (tgt := 361) hx hb d_Mo_compute_345 (by decide) (fun c345 => ?_) (fun c345 => ?_)
                          · exact mend_v (u := (tF σ 0 (vf_upd (mF σ 0) (((mJ σ 0) ((mJ σ 8) i.toNatClampNeg).toNatClampNeg) + ((mJ σ 10) i.toNatClampNeg)).toNatClampNeg ((mF σ 1) (((mJ σ 9) i.toNatClampNeg) - ((mJ σ 9) i.toNatClampNeg) / 4 * 4).toNatClampNeg)))) hx hb hr hlocks hS hP d_Mo_compute_361 (by unfold cpM; (rw [if_neg (show ¬ mq σ (ix i) 0 = 1 from c74), if_neg (show ¬ mq σ (ix i) 0 = 2 from c97), if_neg (show ¬ mq σ (ix i) 0 = 3 from c116), if_neg (show ¬ mq σ (ix i) 0 = 4 from c135), if_neg (show ¬ mq σ (ix i) 0 = 5 from c154), if_neg (show ¬ mq σ (ix i) 0 = 6 from c181), if_neg (show ¬ mq σ (ix i) 0 = 7 from c205), if_neg (show ¬ mq σ (ix i) 0 = 8 from c221), if_pos (show mq σ (ix i) 0 = 9 from c247)]) <;> rfl)
                          · exact absurd (c247.symm.trans c345) (by decide)
                        · exact absurd (c247.symm.trans c324) (by decide)
                      · exact absurd (c247.symm.trans c295) (by decide)
                    · exact absurd (b2i1 c267) (by rw [c247]; decide)
                · refine lv_aload_n hx hb d_Mo_compute_224 rfl (lv_at hl 6 rfl) ?_
                  refine va_get (D := gD G) (ci := 7) (v := .ref (gad G 32)) (C := R_Mo) (T := F_Mo) (N := 29) hx hb (wl_Mo hT) (fun _ h9 => h9) hown hK hP 0 rfl rfl 11 (by decide) (k_581 hT) (fun _ h9 => h9) rfl d_Mo_compute_225 ?_
                  refine lv_aload_n hx hb d_Mo_compute_228 rfl (lv_at hl 6 rfl) ?_
                  refine va_get (D := gD G) (ci := 7) (v := .ref (gad G 22)) (C := R_Mo) (T := F_Mo) (N := 29) hx hb (wl_Mo hT) (fun _ h9 => h9) hown hK hP 0 rfl rfl 1 (by decide) (k_571 hT) (fun _ h9 => h9) rfl d_Mo_compute_229 ?_
                  refine lv_iload_n hx hb d_Mo_compute_232 rfl (lv_at hl 7 rfl) ?_
                  refine va_iald (f := (mJ σ 7)) hx hb hK hP 2 0 rfl rfl (h) d_Mo_compute_233 ?_
                  refine lv_iconst (v := 4) hx hb d_Mo_compute_234 (by decide) ?_
                  refine lv_irem hx hb d_Mo_compute_235 (by decide) ?_
                  refine lv_aload_n hx hb d_Mo_compute_236 rfl (lv_at hl 6 rfl) ?_
                  refine va_get (D := gD G) (ci := 7) (v := .ref (gad G 33)) (C := R_Mo) (T := F_Mo) (N := 29) hx hb (wl_Mo hT) (fun _ h9 => h9) hown hK hP 0 rfl rfl 12 (by decide) (k_582 hT) (fun _ h9 => h9) rfl d_Mo_compute_237 ?_
                  refine lv_iload hx hb d_Mo_compute_240 (lv_at hl 0 rfl) ?_
                  refine va_dald (f := (mF σ 0)) hx hb hK hP 13 1 rfl rfl (hadr (by rw [c221]; decide)) d_Mo_compute_242 ?_
                  refine va_dast (f := (mF σ 1)) hx hb hK hP hD hS 12 1 rfl rfl (m4_in hq.2.1) d_Mo_compute_243 (fun H locs hP hD hS => ?_)
                  have hP : va_P (gD G) classes (mw G (tF σ 1 (vf_upd (mF σ 1) (((mJ σ 7) i.toNatClampNeg) - ((mJ σ 7) i.toNatClampNeg) / 4 * 4).toNatClampNeg ((mF σ 0) (((mJ σ 0) ((mJ σ 8) i.toNatClampNeg).toNatClampNeg) + ((mJ σ 10) i.toNatClampNeg)).toNatClampNeg)))) H := hP
                  have hD : va_D (gA G) (mw G (tF σ 1 (vf_upd (mF σ 1) (((mJ σ 7) i.toNatClampNeg) - ((mJ σ 7) i.toNatClampNeg) / 4 * 4).toNatClampNeg ((mF σ 0) (((mJ σ 0) ((mJ σ 8) i.toNatClampNeg).toNatClampNeg) + ((mJ σ 10) i.toNatClampNeg)).toNatClampNeg)))) := g.d
                  refine lv_iload_n hx hb d_Mo_compute_244 rfl (lv_at hl 5 rfl) ?_
                  refine lv_bipush (v := 9) hx hb d_Mo_compute_245 (by decide) ?_
                  refine lv_icmp_ne (tgt := 259) hx hb d_Mo_compute_247 (by decide) (fun c247 => ?_) (fun c247 => ?_)
                  · refine lv_iload_n hx hb d_Mo_compute_259 rfl (lv_at hl 5 rfl) ?_
                    refine lv_bipush (v := 10) hx hb d_Mo_compute_260 (by decide) ?_
                    refine lv_bipush (v := 13) hx hb d_Mo_compute_262 (by decide) ?_
                    refine cx_S (n := 3) (As := [.int ((mJ σ 6) i.toNatClampNeg), .int 10, .int 13]) (rest := []) ⟨hx, hb, hml, hown, fun _ h9 => nomatch h9⟩ (K_Mo_in g (tF σ 1 (vf_upd (mF σ 1) (((mJ σ 7) i.toNatClampNeg) - ((mJ σ 7) i.toNatClampNeg) / 4 * 4).toNatClampNeg ((mF σ 0) (((mJ σ 0) ((mJ σ 8) i.toNatClampNeg).toNatClampNeg) + ((mJ σ 10) i.toNatClampNeg)).toNatClampNeg))) ((mJ σ 6) i.toNatClampNeg) 10 13 ) (k_666 hT) (k_667 hT) (k_668 hT) (k_9 hT) rfl (by decide +kernel) (hc.at g hS hP) ⟨by decide, by decide⟩ ⟨by decide, by decide⟩ hl.1 (Nat.le_of_ble_eq_true rfl) d_Mo_compute_264 (fun _ h9 => h9) hS (fun _ _ _ _ _ _ _ h9 => h9.elim) (fun v t H locs ht9 hRt hz hk hS => ?_)
                    obtain ⟨r, u, rfl, ⟨er, eu⟩, hP⟩ := hRt
                    subst er
                    rw [eu, ht9] at hP
                    have hD : va_D (gA G) (mw G (tF σ 1 (vf_upd (mF σ 1) (((mJ σ 7) i.toNatClampNeg) - ((mJ σ 7) i.toNatClampNeg) / 4 * 4).toNatClampNeg ((mF σ 0) (((mJ σ 0) ((mJ σ 8) i.toNatClampNeg).toNatClampNeg) + ((mJ σ 10) i.toNatClampNeg)).toNatClampNeg)))) := g.d
                    refine W.eq (g2 := F0 m 267 ls [.int (b2i (inF ((mJ σ 6) i.toNatClampNeg) 10 13))]) rfl ?_
                    refine lv_if_eq (tgt := 292) hx hb d_Mo_compute_267 (by decide) (fun c267 => ?_) (fun c267 => ?_)
                    · refine lv_iload_n hx hb d_Mo_compute_292 rfl (lv_at hl 5 rfl) ?_
                      refine lv_bipush (v := 14) hx hb d_Mo_compute_293 (by decide) ?_
                      refine lv_icmp_ne (tgt := 321) hx hb d_Mo_compute_295 (by decide) (fun c295 => ?_) (fun c295 => ?_)
                      · refine lv_iload_n hx hb d_Mo_compute_321 rfl (lv_at hl 5 rfl) ?_
                        refine lv_bipush (v := 15) hx hb d_Mo_compute_322 (by decide) ?_
                        refine lv_icmp_ne (tgt := 342) hx hb d_Mo_compute_324 (by decide) (fun c324 => ?_) (fun c324 => ?_)
                        · refine lv_iload_n hx hb d_Mo_compute_342 rfl (lv_at hl 5 rfl) ?_
                          refine lv_bipush (v := 16) hx hb d_Mo_compute_343 (by decide) ?_
                          refine lv_icmp_ne (tgt := 361) hx hb d_Mo_compute_345 (by decide) (fun c345 => ?_) (fun c345 => ?_)
                          · exact mend_v (u := (tF σ 1 (vf_upd (mF σ 1) (((mJ σ 7) i.toNatClampNeg) - ((mJ σ 7) i.toNatClampNeg) / 4 * 4).toNatClampNeg ((mF σ 0) (((mJ σ 0) ((mJ σ 8) i.toNatClampNeg).toNatClampNeg) + ((mJ σ 10) i.toNatClampNeg)).toNatClampNeg)))) hx hb hr hlocks hS hP d_Mo_compute_361 (by unfold cpM; (rw [if_neg (show ¬ mq σ (ix i) 0 = 1 from c74), if_neg (show ¬ mq σ (ix i) 0 = 2 from c97), if_neg (show ¬ mq σ (ix i) 0 = 3 from c116), if_neg (show ¬ mq σ (ix i) 0 = 4 from c135), if_neg (show ¬ mq σ (ix i) 0 = 5 from c154), if_neg (show ¬ mq σ (ix i) 0 = 6 from c181), if_neg (show ¬ mq σ (ix i) 0 = 7 from c205), if_pos (show mq σ (ix i) 0 = 8 from c221)]) <;> rfl)
                          · exact absurd (c221.symm.trans c345) (by decide)
                        · exact absurd (c221.symm.trans c324) (by decide)
                      · exact absurd (c221.symm.trans c295) (by decide)
                    · exact absurd (b2i1 c267) (by rw [c221]; decide)
                  · exact absurd (c221.symm.trans c247) (by decide)
              · refine lv_aload_n hx hb d_Mo_compute_208 rfl (lv_at hl 6 rfl) ?_
                refine va_get (D := gD G) (ci := 7) (v := .ref (gad G 33)) (C := R_Mo) (T := F_Mo) (N := 29) hx hb (wl_Mo hT) (fun _ h9 => h9) hown hK hP 0 rfl rfl 12 (by decide) (k_582 hT) (fun _ h9 => h9) rfl d_Mo_compute_209 ?_
                refine lv_iload hx hb d_Mo_compute_212 (lv_at hl 0 rfl) ?_
                refine lv_iload hx hb d_Mo_compute_214 (lv_at hl 3 rfl) ?_
                refine lv_i2d hx hb d_Mo_compute_216 ?_
                refine va_dast (f := (mF σ 0)) hx hb hK hP hD hS 13 1 rfl rfl (hadr (by rw [c205]; decide)) d_Mo_compute_217 (fun H locs hP hD hS => ?_)
                have hP : va_P (gD G) classes (mw G (tF σ 0 (vf_upd (mF σ 0) (((mJ σ 0) ((mJ σ 8) i.toNatClampNeg).toNatClampNeg) + ((mJ σ 10) i.toNatClampNeg)).toNatClampNeg (FP.i2d ((mJ σ 0) ((mJ σ 9) i.toNatClampNeg).toNatClampNeg))))) H := hP
                have hD : va_D (gA G) (mw G (tF σ 0 (vf_upd (mF σ 0) (((mJ σ 0) ((mJ σ 8) i.toNatClampNeg).toNatClampNeg) + ((mJ σ 10) i.toNatClampNeg)).toNatClampNeg (FP.i2d ((mJ σ 0) ((mJ σ 9) i.toNatClampNeg).toNatClampNeg))))) := g.d
                refine lv_iload_n hx hb d_Mo_compute_218 rfl (lv_at hl 5 rfl) ?_
                refine lv_bipush (v := 8) hx hb d_Mo_compute_219 (by decide) ?_
                refine lv_icmp_ne (tgt := 244) hx hb d_Mo_compute_221 (by decide) (fun c221 => ?_) (fun c221 => ?_)
                · refine lv_iload_n hx hb d_Mo_compute_244 rfl (lv_at hl 5 rfl) ?_
                  refine lv_bipush (v := 9) hx hb d_Mo_compute_245 (by decide) ?_
                  refine lv_icmp_ne (tgt := 259) hx hb d_Mo_compute_247 (by decide) (fun c247 => ?_) (fun c247 => ?_)
                  · refine lv_iload_n hx hb d_Mo_compute_259 rfl (lv_at hl 5 rfl) ?_
                    refine lv_bipush (v := 10) hx hb d_Mo_compute_260 (by decide) ?_
                    refine lv_bipush (v := 13) hx hb d_Mo_compute_262 (by decide) ?_
                    refine cx_S (n := 3) (As := [.int ((mJ σ 6) i.toNatClampNeg), .int 10, .int 13]) (rest := []) ⟨hx, hb, hml, hown, fun _ h9 => nomatch h9⟩ (K_Mo_in g (tF σ 0 (vf_upd (mF σ 0) (((mJ σ 0) ((mJ σ 8) i.toNatClampNeg).toNatClampNeg) + ((mJ σ 10) i.toNatClampNeg)).toNatClampNeg (FP.i2d ((mJ σ 0) ((mJ σ 9) i.toNatClampNeg).toNatClampNeg)))) ((mJ σ 6) i.toNatClampNeg) 10 13 ) (k_666 hT) (k_667 hT) (k_668 hT) (k_9 hT) rfl (by decide +kernel) (hc.at g hS hP) ⟨by decide, by decide⟩ ⟨by decide, by decide⟩ hl.1 (Nat.le_of_ble_eq_true rfl) d_Mo_compute_264 (fun _ h9 => h9) hS (fun _ _ _ _ _ _ _ h9 => h9.elim) (fun v t H locs ht9 hRt hz hk hS => ?_)
                    obtain ⟨r, u, rfl, ⟨er, eu⟩, hP⟩ := hRt
                    subst er
                    rw [eu, ht9] at hP
                    have hD : va_D (gA G) (mw G (tF σ 0 (vf_upd (mF σ 0) (((mJ σ 0) ((mJ σ 8) i.toNatClampNeg).toNatClampNeg) + ((mJ σ 10) i.toNatClampNeg)).toNatClampNeg (FP.i2d ((mJ σ 0) ((mJ σ 9) i.toNatClampNeg).toNatClampNeg))))) := g.d
                    refine W.eq (g2 := F0 m 267 ls [.int (b2i (inF ((mJ σ 6) i.toNatClampNeg) 10 13))]) rfl ?_
                    refine lv_if_eq (tgt := 292) hx hb d_Mo_compute_267 (by decide) (fun c267 => ?_) (fun c267 => ?_)
                    · refine lv_iload_n hx hb d_Mo_compute_292 rfl (lv_at hl 5 rfl) ?_
                      refine lv_bipush (v := 14) hx hb d_Mo_compute_293 (by decide) ?_
                      refine lv_icmp_ne (tgt := 321) hx hb d_Mo_compute_295 (by decide) (fun c295 => ?_) (fun c295 => ?_)
                      · refine lv_iload_n hx hb d_Mo_compute_321 rfl (lv_at hl 5 rfl) ?_
                        refine lv_bipush (v := 15) hx hb d_Mo_compute_322 (by decide) ?_
                        refine lv_icmp_ne (tgt := 342) hx hb d_Mo_compute_324 (by decide) (fun c324 => ?_) (fun c324 => ?_)
                        · refine lv_iload_n hx hb d_Mo_compute_342 rfl (lv_at hl 5 rfl) ?_
                          refine lv_bipush (v := 16) hx hb d_Mo_compute_343 (by decide) ?_
                          refine lv_icmp_ne (tgt := 361) hx hb d_Mo_compute_345 (by decide) (fun c345 => ?_) (fun c345 => ?_)
                          · exact mend_v (u := (tF σ 0 (vf_upd (mF σ 0) (((mJ σ 0) ((mJ σ 8) i.toNatClampNeg).toNatClampNeg) + ((mJ σ 10) i.toNatClampNeg)).toNatClampNeg (FP.i2d ((mJ σ 0) ((mJ σ 9) i.toNatClampNeg).toNatClampNeg))))) hx hb hr hlocks hS hP d_Mo_compute_361 (by unfold cpM; (rw [if_neg (show ¬ mq σ (ix i) 0 = 1 from c74), if_neg (show ¬ mq σ (ix i) 0 = 2 from c97), if_neg (show ¬ mq σ (ix i) 0 = 3 from c116), if_neg (show ¬ mq σ (ix i) 0 = 4 from c135), if_neg (show ¬ mq σ (ix i) 0 = 5 from c154), if_neg (show ¬ mq σ (ix i) 0 = 6 from c181), if_pos (show mq σ (ix i) 0 = 7 from c205)]) <;> rfl)
                          · exact absurd (c205.symm.trans c345) (by decide)
                        · exact absurd (c205.symm.trans c324) (by decide)
                      · exact absurd (c205.symm.trans c295) (by decide)
                    · exact absurd (b2i1 c267) (by rw [c205]; decide)
                  · exact absurd (c205.symm.trans c247) (by decide)
                · exact absurd (c205.symm.trans c221) (by decide)
            · refine lv_aload_n hx hb d_Mo_compute_184 rfl (lv_at hl 6 rfl) ?_
              refine lv_aload_n hx hb d_Mo_compute_185 rfl (lv_at hl 6 rfl) ?_
              refine va_get (D := gD G) (ci := 7) (v := .ref (gad G 22)) (C := R_Mo) (T := F_Mo) (N := 29) hx hb (wl_Mo hT) (fun _ h9 => h9) hown hK hP 0 rfl rfl 1 (by decide) (k_571 hT) (fun _ h9 => h9) rfl d_Mo_compute_186 ?_
              refine lv_iload_n hx hb d_Mo_compute_189 rfl (lv_at hl 7 rfl) ?_
              refine va_iald (f := (mJ σ 7)) hx hb hK hP 2 0 rfl rfl (h) d_Mo_compute_190 ?_
              refine lv_aload_n hx hb d_Mo_compute_191 rfl (lv_at hl 6 rfl) ?_
              refine va_get (D := gD G) (ci := 7) (v := .ref (gad G 33)) (C := R_Mo) (T := F_Mo) (N := 29) hx hb (wl_Mo hT) (fun _ h9 => h9) hown hK hP 0 rfl rfl 12 (by decide) (k_582 hT) (fun _ h9 => h9) rfl d_Mo_compute_192 ?_
              refine lv_iload hx hb d_Mo_compute_195 (lv_at hl 0 rfl) ?_
              refine va_dald (f := (mF σ 0)) hx hb hK hP 13 1 rfl rfl (hadr (by rw [c181]; decide)) d_Mo_compute_197 ?_
              refine lv_d2i hx hb d_Mo_compute_198 ?_
              refine cx_V (n := 2) (C := R_Mo) (As := [.int ((mJ σ 7) i.toNatClampNeg), .int (FP.d2i ((mF σ 0) (((mJ σ 0) ((mJ σ 8) i.toNatClampNeg).toNatClampNeg) + ((mJ σ 10) i.toNatClampNeg)).toNatClampNeg))]) (rest := []) ⟨hx, hb, hml, hown, fun _ h9 => nomatch h9⟩ (K_Mo_put g σ ((mJ σ 7) i.toNatClampNeg) (FP.d2i ((mF σ 0) (((mJ σ 0) ((mJ σ 8) i.toNatClampNeg).toNatClampNeg) + ((mJ σ 10) i.toNatClampNeg)).toNatClampNeg)) hq.2.1) (k_732 hT) (k_734 hT) (ks_30 hT) (k_735 hT) (k_9 hT) rfl (by decide +kernel) (va_recv hK hP (ci := 7) (q0 := 0) rfl rfl) (hc.at g hS hP) ⟨by decide, by decide⟩ ⟨by decide, by decide⟩ hl.1 (Nat.le_of_ble_eq_true rfl) d_Mo_compute_199 (fun _ h9 => h9) hS (fun _ _ _ _ _ _ _ h9 => h9.elim) (fun v t H locs ht9 hRt hz hk hS => ?_)
              obtain ⟨u, rfl, eu, hP⟩ := hRt
              rw [eu, ht9] at hP
              have hD : va_D (gA G) (mw G (puF σ ((mJ σ 7) i.toNatClampNeg) (FP.d2i ((mF σ 0) (((mJ σ 0) ((mJ σ 8) i.toNatClampNeg).toNatClampNeg) + ((mJ σ 10) i.toNatClampNeg)).toNatClampNeg)))) := g.d
              refine W.eq (g2 := F0 m 202 ls []) rfl ?_
              refine lv_iload_n hx hb d_Mo_compute_202 rfl (lv_at hl 5 rfl) ?_
              refine lv_bipush (v := 7) hx hb d_Mo_compute_203 (by decide) ?_
              refine lv_icmp_ne (tgt := 218) hx hb d_Mo_compute_205 (by decide) (fun c205 => ?_) (fun c205 => ?_)
              · refine lv_iload_n hx hb d_Mo_compute_218 rfl (lv_at hl 5 rfl) ?_
                refine lv_bipush (v := 8) hx hb d_Mo_compute_219 (by decide) ?_
                refine lv_icmp_ne (tgt := 244) hx hb d_Mo_compute_221 (by decide) (fun c221 => ?_) (fun c221 => ?_)
                · refine lv_iload_n hx hb d_Mo_compute_244 rfl (lv_at hl 5 rfl) ?_
                  refine lv_bipush (v := 9) hx hb d_Mo_compute_245 (by decide) ?_
                  refine lv_icmp_ne (tgt := 259) hx hb d_Mo_compute_247 (by decide) (fun c247 => ?_) (fun c247 => ?_)
                  · refine lv_iload_n hx hb d_Mo_compute_259 rfl (lv_at hl 5 rfl) ?_
                    refine lv_bipush (v := 10) hx hb d_Mo_compute_260 (by decide) ?_
                    refine lv_bipush (v := 13) hx hb d_Mo_compute_262 (by decide) ?_
                    refine cx_S (n := 3) (As := [.int ((mJ σ 6) i.toNatClampNeg), .int 10, .int 13]) (rest := []) ⟨hx, hb, hml, hown, fun _ h9 => nomatch h9⟩ (K_Mo_in g (puF σ ((mJ σ 7) i.toNatClampNeg) (FP.d2i ((mF σ 0) (((mJ σ 0) ((mJ σ 8) i.toNatClampNeg).toNatClampNeg) + ((mJ σ 10) i.toNatClampNeg)).toNatClampNeg))) ((mJ σ 6) i.toNatClampNeg) 10 13 ) (k_666 hT) (k_667 hT) (k_668 hT) (k_9 hT) rfl (by decide +kernel) (hc.at g hS hP) ⟨by decide, by decide⟩ ⟨by decide, by decide⟩ hl.1 (Nat.le_of_ble_eq_true rfl) d_Mo_compute_264 (fun _ h9 => h9) hS (fun _ _ _ _ _ _ _ h9 => h9.elim) (fun v t H locs ht9 hRt hz hk hS => ?_)
                    obtain ⟨r, u, rfl, ⟨er, eu⟩, hP⟩ := hRt
                    subst er
                    rw [eu, ht9] at hP
                    have hD : va_D (gA G) (mw G (puF σ ((mJ σ 7) i.toNatClampNeg) (FP.d2i ((mF σ 0) (((mJ σ 0) ((mJ σ 8) i.toNatClampNeg).toNatClampNeg) + ((mJ σ 10) i.toNatClampNeg)).toNatClampNeg)))) := g.d
                    refine W.eq (g2 := F0 m 267 ls [.int (b2i (inF ((mJ σ 6) i.toNatClampNeg) 10 13))]) rfl ?_
                    refine lv_if_eq (tgt := 292) hx hb d_Mo_compute_267 (by decide) (fun c267 => ?_) (fun c267 => ?_)
                    · refine lv_iload_n hx hb d_Mo_compute_292 rfl (lv_at hl 5 rfl) ?_
                      refine lv_bipush (v := 14) hx hb d_Mo_compute_293 (by decide) ?_
                      refine lv_icmp_ne (tgt := 321) hx hb d_Mo_compute_295 (by decide) (fun c295 => ?_) (fun c295 => ?_)
                      · refine lv_iload_n hx hb d_Mo_compute_321 rfl (lv_at hl 5 rfl) ?_
                        refine lv_bipush (v := 15) hx hb d_Mo_compute_322 (by decide) ?_
                        refine lv_icmp_ne (tgt := 342) hx hb d_Mo_compute_324 (by decide) (fun c324 => ?_) (fun c324 => ?_)
                        · refine lv_iload_n hx hb d_Mo_compute_342 rfl (lv_at hl 5 rfl) ?_
                          refine lv_bipush (v := 16) hx hb d_Mo_compute_343 (by decide) ?_
                          refine lv_icmp_ne (tgt := 361) hx hb d_Mo_compute_345 (by decide) (fun c345 => ?_) (fun c345 => ?_)
                          · exact mend_v (u := (puF σ ((mJ σ 7) i.toNatClampNeg) (FP.d2i ((mF σ 0) (((mJ σ 0) ((mJ σ 8) i.toNatClampNeg).toNatClampNeg) + ((mJ σ 10) i.toNatClampNeg)).toNatClampNeg)))) hx hb hr hlocks hS hP d_Mo_compute_361 (by unfold cpM; (rw [if_neg (show ¬ mq σ (ix i) 0 = 1 from c74), if_neg (show ¬ mq σ (ix i) 0 = 2 from c97), if_neg (show ¬ mq σ (ix i) 0 = 3 from c116), if_neg (show ¬ mq σ (ix i) 0 = 4 from c135), if_neg (show ¬ mq σ (ix i) 0 = 5 from c154), if_pos (show mq σ (ix i) 0 = 6 from c181)]) <;> rfl)
                          · exact absurd (c181.symm.trans c345) (by decide)
                        · exact absurd (c181.symm.trans c324) (by decide)
                      · exact absurd (c181.symm.trans c295) (by decide)
                    · exact absurd (b2i1 c267) (by rw [c181]; decide)
                  · exact absurd (c181.symm.trans c247) (by decide)
                · exact absurd (c181.symm.trans c221) (by decide)
              · exact absurd (c181.symm.trans c205) (by decide)
          · refine lv_aload_n hx hb d_Mo_compute_157 rfl (lv_at hl 6 rfl) ?_
            refine lv_aload_n hx hb d_Mo_compute_158 rfl (lv_at hl 6 rfl) ?_
            refine va_get (D := gD G) (ci := 7) (v := .ref (gad G 22)) (C := R_Mo) (T := F_Mo) (N := 29) hx hb (wl_Mo hT) (fun _ h9 => h9) hown hK hP 0 rfl rfl 1 (by decide) (k_571 hT) (fun _ h9 => h9) rfl d_Mo_compute_159 ?_
            refine lv_iload_n hx hb d_Mo_compute_162 rfl (lv_at hl 7 rfl) ?_
            refine va_iald (f := (mJ σ 7)) hx hb hK hP 2 0 rfl rfl (h) d_Mo_compute_163 ?_
            refine lv_iload_n hx hb d_Mo_compute_164 rfl (lv_at hl 4 rfl) ?_
            refine lv_iload hx hb d_Mo_compute_165 (lv_at hl 3 rfl) ?_
            refine lv_icmp_ge (tgt := 174) hx hb d_Mo_compute_167 (by decide) (fun c167 => ?_) (fun c167 => ?_)
            · refine lv_iconst (v := 0) hx hb d_Mo_compute_174 (by decide) ?_
              refine cx_V (n := 2) (C := R_Mo) (As := [.int ((mJ σ 7) i.toNatClampNeg), .int 0]) (rest := []) ⟨hx, hb, hml, hown, fun _ h9 => nomatch h9⟩ (K_Mo_put g σ ((mJ σ 7) i.toNatClampNeg) 0 hq.2.1) (k_732 hT) (k_734 hT) (ks_30 hT) (k_735 hT) (k_9 hT) rfl (by decide +kernel) (va_recv hK hP (ci := 7) (q0 := 0) rfl rfl) (hc.at g hS hP) ⟨by decide, by decide⟩ ⟨by decide, by decide⟩ hl.1 (Nat.le_of_ble_eq_true rfl) d_Mo_compute_175 (fun _ h9 => h9) hS (fun _ _ _ _ _ _ _ h9 => h9.elim) (fun v t H locs ht9 hRt hz hk hS => ?_)
              obtain ⟨u, rfl, eu, hP⟩ := hRt
              rw [eu, ht9] at hP
              have hD : va_D (gA G) (mw G (puF σ ((mJ σ 7) i.toNatClampNeg) 0)) := g.d
              refine W.eq (g2 := F0 m 178 ls []) rfl ?_
              refine lv_iload_n hx hb d_Mo_compute_178 rfl (lv_at hl 5 rfl) ?_
              refine lv_bipush (v := 6) hx hb d_Mo_compute_179 (by decide) ?_
              refine lv_icmp_ne (tgt := 202) hx hb d_Mo_compute_181 (by decide) (fun c181 => ?_) (fun c181 => ?_)
              · refine lv_iload_n hx hb d_Mo_compute_202 rfl (lv_at hl 5 rfl) ?_
                refine lv_bipush (v := 7) hx hb d_Mo_compute_203 (by decide) ?_
                refine lv_icmp_ne (tgt := 218) hx hb d_Mo_compute_205 (by decide) (fun c205 => ?_) (fun c205 => ?_)
                · refine lv_iload_n hx hb d_Mo_compute_218 rfl (lv_at hl 5 rfl) ?_
                  refine lv_bipush (v := 8) hx hb d_Mo_compute_219 (by decide) ?_
                  refine lv_icmp_ne (tgt := 244) hx hb d_Mo_compute_221 (by decide) (fun c221 => ?_) (fun c221 => ?_)
                  · refine lv_iload_n hx hb d_Mo_compute_244 rfl (lv_at hl 5 rfl) ?_
                    refine lv_bipush (v := 9) hx hb d_Mo_compute_245 (by decide) ?_
                    refine lv_icmp_ne (tgt := 259) hx hb d_Mo_compute_247 (by decide) (fun c247 => ?_) (fun c247 => ?_)
                    · refine lv_iload_n hx hb d_Mo_compute_259 rfl (lv_at hl 5 rfl) ?_
                      refine lv_bipush (v := 10) hx hb d_Mo_compute_260 (by decide) ?_
                      refine lv_bipush (v := 13) hx hb d_Mo_compute_262 (by decide) ?_
                      refine cx_S (n := 3) (As := [.int ((mJ σ 6) i.toNatClampNeg), .int 10, .int 13]) (rest := []) ⟨hx, hb, hml, hown, fun _ h9 => nomatch h9⟩ (K_Mo_in g (puF σ ((mJ σ 7) i.toNatClampNeg) 0) ((mJ σ 6) i.toNatClampNeg) 10 13 ) (k_666 hT) (k_667 hT) (k_668 hT) (k_9 hT) rfl (by decide +kernel) (hc.at g hS hP) ⟨by decide, by decide⟩ ⟨by decide, by decide⟩ hl.1 (Nat.le_of_ble_eq_true rfl) d_Mo_compute_264 (fun _ h9 => h9) hS (fun _ _ _ _ _ _ _ h9 => h9.elim) (fun v t H locs ht9 hRt hz hk hS => ?_)
                      obtain ⟨r, u, rfl, ⟨er, eu⟩, hP⟩ := hRt
                      subst er
                      rw [eu, ht9] at hP
                      have hD : va_D (gA G) (mw G (puF σ ((mJ σ 7) i.toNatClampNeg) 0)) := g.d
                      refine W.eq (g2 := F0 m 267 ls [.int (b2i (inF ((mJ σ 6) i.toNatClampNeg) 10 13))]) rfl ?_
                      refine lv_if_eq (tgt := 292) hx hb d_Mo_compute_267 (by decide) (fun c267 => ?_) (fun c267 => ?_)
                      · refine lv_iload_n hx hb d_Mo_compute_292 rfl (lv_at hl 5 rfl) ?_
                        refine lv_bipush (v := 14) hx hb d_Mo_compute_293 (by decide) ?_
                        refine lv_icmp_ne (tgt := 321) hx hb d_Mo_compute_295 (by decide) (fun c295 => ?_) (fun c295 => ?_)
                        · refine lv_iload_n hx hb d_Mo_compute_321 rfl (lv_at hl 5 rfl) ?_
                          refine lv_bipush (v := 15) hx hb d_Mo_compute_322 (by decide) ?_
                          refine lv_icmp_ne (tgt := 342) hx hb d_Mo_compute_324 (by decide) (fun c324 => ?_) (fun c324 => ?_)
                          · refine lv_iload_n hx hb d_Mo_compute_342 rfl (lv_at hl 5 rfl) ?_
                            refine lv_bipush (v := 16) hx hb d_Mo_compute_343 (by decide) ?_
                            refine lv_icmp_ne (tgt := 361) hx hb d_Mo_compute_345 (by decide) (fun c345 => ?_) (fun c345 => ?_)
                            · exact mend_v (u := (puF σ ((mJ σ 7) i.toNatClampNeg) 0)) hx hb hr hlocks hS hP d_Mo_compute_361 (by unfold cpM; (rw [if_neg (show ¬ mq σ (ix i) 0 = 1 from c74), if_neg (show ¬ mq σ (ix i) 0 = 2 from c97), if_neg (show ¬ mq σ (ix i) 0 = 3 from c116), if_neg (show ¬ mq σ (ix i) 0 = 4 from c135), if_pos (show mq σ (ix i) 0 = 5 from c154), if_pos (show (mJ σ 0 (ix (mq σ (ix i) 3)) ≤ mJ σ 0 (ix (mq σ (ix i) 2))) from c167)]) <;> rfl)
                            · exact absurd (c154.symm.trans c345) (by decide)
                          · exact absurd (c154.symm.trans c324) (by decide)
                        · exact absurd (c154.symm.trans c295) (by decide)
                      · exact absurd (b2i1 c267) (by rw [c154]; decide)
                    · exact absurd (c154.symm.trans c247) (by decide)
                  · exact absurd (c154.symm.trans c221) (by decide)
                · exact absurd (c154.symm.trans c205) (by decide)
              · exact absurd (c154.symm.trans c181) (by decide)
            · refine lv_iconst (v := 1) hx hb d_Mo_compute_170 (by decide) ?_
              refine lv_goto (tgt := 175) hx hb d_Mo_compute_171 (by decide) ?_
              refine cx_V (n := 2) (C := R_Mo) (As := [.int ((mJ σ 7) i.toNatClampNeg), .int 1]) (rest := []) ⟨hx, hb, hml, hown, fun _ h9 => nomatch h9⟩ (K_Mo_put g σ ((mJ σ 7) i.toNatClampNeg) 1 hq.2.1) (k_732 hT) (k_734 hT) (ks_30 hT) (k_735 hT) (k_9 hT) rfl (by decide +kernel) (va_recv hK hP (ci := 7) (q0 := 0) rfl rfl) (hc.at g hS hP) ⟨by decide, by decide⟩ ⟨by decide, by decide⟩ hl.1 (Nat.le_of_ble_eq_true rfl) d_Mo_compute_175 (fun _ h9 => h9) hS (fun _ _ _ _ _ _ _ h9 => h9.elim) (fun v t H locs ht9 hRt hz hk hS => ?_)
              obtain ⟨u, rfl, eu, hP⟩ := hRt
              rw [eu, ht9] at hP
              have hD : va_D (gA G) (mw G (puF σ ((mJ σ 7) i.toNatClampNeg) 1)) := g.d
              refine W.eq (g2 := F0 m 178 ls []) rfl ?_
              refine lv_iload_n hx hb d_Mo_compute_178 rfl (lv_at hl 5 rfl) ?_
              refine lv_bipush (v := 6) hx hb d_Mo_compute_179 (by decide) ?_
              refine lv_icmp_ne (tgt := 202) hx hb d_Mo_compute_181 (by decide) (fun c181 => ?_) (fun c181 => ?_)
              · refine lv_iload_n hx hb d_Mo_compute_202 rfl (lv_at hl 5 rfl) ?_
                refine lv_bipush (v := 7) hx hb d_Mo_compute_203 (by decide) ?_
                refine lv_icmp_ne (tgt := 218) hx hb d_Mo_compute_205 (by decide) (fun c205 => ?_) (fun c205 => ?_)
                · refine lv_iload_n hx hb d_Mo_compute_218 rfl (lv_at hl 5 rfl) ?_
                  refine lv_bipush (v := 8) hx hb d_Mo_compute_219 (by decide) ?_
                  refine lv_icmp_ne (tgt := 244) hx hb d_Mo_compute_221 (by decide) (fun c221 => ?_) (fun c221 => ?_)
                  · refine lv_iload_n hx hb d_Mo_compute_244 rfl (lv_at hl 5 rfl) ?_
                    refine lv_bipush (v := 9) hx hb d_Mo_compute_245 (by decide) ?_
                    refine lv_icmp_ne (tgt := 259) hx hb d_Mo_compute_247 (by decide) (fun c247 => ?_) (fun c247 => ?_)
                    · refine lv_iload_n hx hb d_Mo_compute_259 rfl (lv_at hl 5 rfl) ?_
                      refine lv_bipush (v := 10) hx hb d_Mo_compute_260 (by decide) ?_
                      refine lv_bipush (v := 13) hx hb d_Mo_compute_262 (by decide) ?_
                      refine cx_S (n := 3) (As := [.int ((mJ σ 6) i.toNatClampNeg), .int 10, .int 13]) (rest := []) ⟨hx, hb, hml, hown, fun _ h9 => nomatch h9⟩ (K_Mo_in g (puF σ ((mJ σ 7) i.toNatClampNeg) 1) ((mJ σ 6) i.toNatClampNeg) 10 13 ) (k_666 hT) (k_667 hT) (k_668 hT) (k_9 hT) rfl (by decide +kernel) (hc.at g hS hP) ⟨by decide, by decide⟩ ⟨by decide, by decide⟩ hl.1 (Nat.le_of_ble_eq_true rfl) d_Mo_compute_264 (fun _ h9 => h9) hS (fun _ _ _ _ _ _ _ h9 => h9.elim) (fun v t H locs ht9 hRt hz hk hS => ?_)
                      obtain ⟨r, u, rfl, ⟨er, eu⟩, hP⟩ := hRt
                      subst er
                      rw [eu, ht9] at hP
                      have hD : va_D (gA G) (mw G (puF σ ((mJ σ 7) i.toNatClampNeg) 1)) := g.d
                      refine W.eq (g2 := F0 m 267 ls [.int (b2i (inF ((mJ σ 6) i.toNatClampNeg) 10 13))]) rfl ?_
                      refine lv_if_eq (tgt := 292) hx hb d_Mo_compute_267 (by decide) (fun c267 => ?_) (fun c267 => ?_)
                      · refine lv_iload_n hx hb d_Mo_compute_292 rfl (lv_at hl 5 rfl) ?_
                        refine lv_bipush (v := 14) hx hb d_Mo_compute_293 (by decide) ?_
                        refine lv_icmp_ne (tgt := 321) hx hb d_Mo_compute_295 (by decide) (fun c295 => ?_) (fun c295 => ?_)
                        · refine lv_iload_n hx hb d_Mo_compute_321 rfl (lv_at hl 5 rfl) ?_
                          refine lv_bipush (v := 15) hx hb d_Mo_compute_322 (by decide) ?_
                          refine lv_icmp_ne (tgt := 342) hx hb d_Mo_compute_324 (by decide) (fun c324 => ?_) (fun c324 => ?_)
                          · refine lv_iload_n hx hb d_Mo_compute_342 rfl (lv_at hl 5 rfl) ?_
                            refine lv_bipush (v := 16) hx hb d_Mo_compute_343 (by decide) ?_
                            refine lv_icmp_ne (tgt := 361) hx hb d_Mo_compute_345 (by decide) (fun c345 => ?_) (fun c345 => ?_)
                            · exact mend_v (u := (puF σ ((mJ σ 7) i.toNatClampNeg) 1)) hx hb hr hlocks hS hP d_Mo_compute_361 (by unfold cpM; (rw [if_neg (show ¬ mq σ (ix i) 0 = 1 from c74), if_neg (show ¬ mq σ (ix i) 0 = 2 from c97), if_neg (show ¬ mq σ (ix i) 0 = 3 from c116), if_neg (show ¬ mq σ (ix i) 0 = 4 from c135), if_pos (show mq σ (ix i) 0 = 5 from c154), if_neg (show ¬ (mJ σ 0 (ix (mq σ (ix i) 3)) ≤ mJ σ 0 (ix (mq σ (ix i) 2))) from c167)]) <;> rfl)
                            · exact absurd (c154.symm.trans c345) (by decide)
                          · exact absurd (c154.symm.trans c324) (by decide)
                        · exact absurd (c154.symm.trans c295) (by decide)
                      · exact absurd (b2i1 c267) (by rw [c154]; decide)
                    · exact absurd (c154.symm.trans c247) (by decide)
                  · exact absurd (c154.symm.trans c221) (by decide)
                · exact absurd (c154.symm.trans c205) (by decide)
              · exact absurd (c154.symm.trans c181) (by decide)
        · refine lv_aload_n hx hb d_Mo_compute_138 rfl (lv_at hl 6 rfl) ?_
          refine lv_aload_n hx hb d_Mo_compute_139 rfl (lv_at hl 6 rfl) ?_
          refine va_get (D := gD G) (ci := 7) (v := .ref (gad G 22)) (C := R_Mo) (T := F_Mo) (N := 29) hx hb (wl_Mo hT) (fun _ h9 => h9) hown hK hP 0 rfl rfl 1 (by decide) (k_571 hT) (fun _ h9 => h9) rfl d_Mo_compute_140 ?_
          refine lv_iload_n hx hb d_Mo_compute_143 rfl (lv_at hl 7 rfl) ?_
          refine va_iald (f := (mJ σ 7)) hx hb hK hP 2 0 rfl rfl (h) d_Mo_compute_144 ?_
          refine lv_iload_n hx hb d_Mo_compute_145 rfl (lv_at hl 4 rfl) ?_
          refine lv_iload hx hb d_Mo_compute_146 (lv_at hl 3 rfl) ?_
          refine lv_imul hx hb d_Mo_compute_148 ?_
          refine cx_V (n := 2) (C := R_Mo) (As := [.int ((mJ σ 7) i.toNatClampNeg), .int (((mJ σ 0) ((mJ σ 8) i.toNatClampNeg).toNatClampNeg) * ((mJ σ 0) ((mJ σ 9) i.toNatClampNeg).toNatClampNeg))]) (rest := []) ⟨hx, hb, hml, hown, fun _ h9 => nomatch h9⟩ (K_Mo_put g σ ((mJ σ 7) i.toNatClampNeg) (((mJ σ 0) ((mJ σ 8) i.toNatClampNeg).toNatClampNeg) * ((mJ σ 0) ((mJ σ 9) i.toNatClampNeg).toNatClampNeg)) hq.2.1) (k_732 hT) (k_734 hT) (ks_30 hT) (k_735 hT) (k_9 hT) rfl (by decide +kernel) (va_recv hK hP (ci := 7) (q0 := 0) rfl rfl) (hc.at g hS hP) ⟨by decide, by decide⟩ ⟨by decide, by decide⟩ hl.1 (Nat.le_of_ble_eq_true rfl) d_Mo_compute_149 (fun _ h9 => h9) hS (fun _ _ _ _ _ _ _ h9 => h9.elim) (fun v t H locs ht9 hRt hz hk hS => ?_)
          obtain ⟨u, rfl, eu, hP⟩ := hRt
          rw [eu, ht9] at hP
          have hD : va_D (gA G) (mw G (puF σ ((mJ σ 7) i.toNatClampNeg) (((mJ σ 0) ((mJ σ 8) i.toNatClampNeg).toNatClampNeg) * ((mJ σ 0) ((mJ σ 9) i.toNatClampNeg).toNatClampNeg)))) := g.d
          refine W.eq (g2 := F0 m 152 ls []) rfl ?_
          refine lv_iload_n hx hb d_Mo_compute_152 rfl (lv_at hl 5 rfl) ?_
          refine lv_iconst (v := 5) hx hb d_Mo_compute_153 (by decide) ?_
          refine lv_icmp_ne (tgt := 178) hx hb d_Mo_compute_154 (by decide) (fun c154 => ?_) (fun c154 => ?_)
          · refine lv_iload_n hx hb d_Mo_compute_178 rfl (lv_at hl 5 rfl) ?_
            refine lv_bipush (v := 6) hx hb d_Mo_compute_179 (by decide) ?_
            refine lv_icmp_ne (tgt := 202) hx hb d_Mo_compute_181 (by decide) (fun c181 => ?_) (fun c181 => ?_)
            · refine lv_iload_n hx hb d_Mo_compute_202 rfl (lv_at hl 5 rfl) ?_
              refine lv_bipush (v := 7) hx hb d_Mo_compute_203 (by decide) ?_
              refine lv_icmp_ne (tgt := 218) hx hb d_Mo_compute_205 (by decide) (fun c205 => ?_) (fun c205 => ?_)
              · refine lv_iload_n hx hb d_Mo_compute_218 rfl (lv_at hl 5 rfl) ?_
                refine lv_bipush (v := 8) hx hb d_Mo_compute_219 (by decide) ?_
                refine lv_icmp_ne (tgt := 244) hx hb d_Mo_compute_221 (by decide) (fun c221 => ?_) (fun c221 => ?_)
                · refine lv_iload_n hx hb d_Mo_compute_244 rfl (lv_at hl 5 rfl) ?_
                  refine lv_bipush (v := 9) hx hb d_Mo_compute_245 (by decide) ?_
                  refine lv_icmp_ne (tgt := 259) hx hb d_Mo_compute_247 (by decide) (fun c247 => ?_) (fun c247 => ?_)
                  · refine lv_iload_n hx hb d_Mo_compute_259 rfl (lv_at hl 5 rfl) ?_
                    refine lv_bipush (v := 10) hx hb d_Mo_compute_260 (by decide) ?_
                    refine lv_bipush (v := 13) hx hb d_Mo_compute_262 (by decide) ?_
                    refine cx_S (n := 3) (As := [.int ((mJ σ 6) i.toNatClampNeg), .int 10, .int 13]) (rest := []) ⟨hx, hb, hml, hown, fun _ h9 => nomatch h9⟩ (K_Mo_in g (puF σ ((mJ σ 7) i.toNatClampNeg) (((mJ σ 0) ((mJ σ 8) i.toNatClampNeg).toNatClampNeg) * ((mJ σ 0) ((mJ σ 9) i.toNatClampNeg).toNatClampNeg))) ((mJ σ 6) i.toNatClampNeg) 10 13 ) (k_666 hT) (k_667 hT) (k_668 hT) (k_9 hT) rfl (by decide +kernel) (hc.at g hS hP) ⟨by decide, by decide⟩ ⟨by decide, by decide⟩ hl.1 (Nat.le_of_ble_eq_true rfl) d_Mo_compute_264 (fun _ h9 => h9) hS (fun _ _ _ _ _ _ _ h9 => h9.elim) (fun v t H locs ht9 hRt hz hk hS => ?_)
                    obtain ⟨r, u, rfl, ⟨er, eu⟩, hP⟩ := hRt
                    subst er
                    rw [eu, ht9] at hP
                    have hD : va_D (gA G) (mw G (puF σ ((mJ σ 7) i.toNatClampNeg) (((mJ σ 0) ((mJ σ 8) i.toNatClampNeg).toNatClampNeg) * ((mJ σ 0) ((mJ σ 9) i.toNatClampNeg).toNatClampNeg)))) := g.d
                    refine W.eq (g2 := F0 m 267 ls [.int (b2i (inF ((mJ σ 6) i.toNatClampNeg) 10 13))]) rfl ?_
                    refine lv_if_eq (tgt := 292) hx hb d_Mo_compute_267 (by decide) (fun c267 => ?_) (fun c267 => ?_)
                    · refine lv_iload_n hx hb d_Mo_compute_292 rfl (lv_at hl 5 rfl) ?_
                      refine lv_bipush (v := 14) hx hb d_Mo_compute_293 (by decide) ?_
                      refine lv_icmp_ne (tgt := 321) hx hb d_Mo_compute_295 (by decide) (fun c295 => ?_) (fun c295 => ?_)
                      · refine lv_iload_n hx hb d_Mo_compute_321 rfl (lv_at hl 5 rfl) ?_
                        refine lv_bipush (v := 15) hx hb d_Mo_compute_322 (by decide) ?_
                        refine lv_icmp_ne (tgt := 342) hx hb d_Mo_compute_324 (by decide) (fun c324 => ?_) (fun c324 => ?_)
                        · refine lv_iload_n hx hb d_Mo_compute_342 rfl (lv_at hl 5 rfl) ?_
                          refine lv_bipush (v := 16) hx hb d_Mo_compute_343 (by decide) ?_
                          refine lv_icmp_ne (tgt := 361) hx hb d_Mo_compute_345 (by decide) (fun c345 => ?_) (fun c345 => ?_)
                          · exact mend_v (u := (puF σ ((mJ σ 7) i.toNatClampNeg) (((mJ σ 0) ((mJ σ 8) i.toNatClampNeg).toNatClampNeg) * ((mJ σ 0) ((mJ σ 9) i.toNatClampNeg).toNatClampNeg)))) hx hb hr hlocks hS hP d_Mo_compute_361 (by unfold cpM; (rw [if_neg (show ¬ mq σ (ix i) 0 = 1 from c74), if_neg (show ¬ mq σ (ix i) 0 = 2 from c97), if_neg (show ¬ mq σ (ix i) 0 = 3 from c116), if_pos (show mq σ (ix i) 0 = 4 from c135)]) <;> rfl)
                          · exact absurd (c135.symm.trans c345) (by decide)
                        · exact absurd (c135.symm.trans c324) (by decide)
                      · exact absurd (c135.symm.trans c295) (by decide)
                    · exact absurd (b2i1 c267) (by rw [c135]; decide)
                  · exact absurd (c135.symm.trans c247) (by decide)
                · exact absurd (c135.symm.trans c221) (by decide)
              · exact absurd (c135.symm.trans c205) (by decide)
            · exact absurd (c135.symm.trans c181) (by decide)
          · exact absurd (c135.symm.trans c154) (by decide)
      · refine lv_aload_n hx hb d_Mo_compute_119 rfl (lv_at hl 6 rfl) ?_
        refine lv_aload_n hx hb d_Mo_compute_120 rfl (lv_at hl 6 rfl) ?_
        refine va_get (D := gD G) (ci := 7) (v := .ref (gad G 22)) (C := R_Mo) (T := F_Mo) (N := 29) hx hb (wl_Mo hT) (fun _ h9 => h9) hown hK hP 0 rfl rfl 1 (by decide) (k_571 hT) (fun _ h9 => h9) rfl d_Mo_compute_121 ?_
        refine lv_iload_n hx hb d_Mo_compute_124 rfl (lv_at hl 7 rfl) ?_
        refine va_iald (f := (mJ σ 7)) hx hb hK hP 2 0 rfl rfl (h) d_Mo_compute_125 ?_
        refine lv_iload_n hx hb d_Mo_compute_126 rfl (lv_at hl 4 rfl) ?_
        refine lv_iload hx hb d_Mo_compute_127 (lv_at hl 3 rfl) ?_
        refine lv_isub hx hb d_Mo_compute_129 ?_
        refine cx_V (n := 2) (C := R_Mo) (As := [.int ((mJ σ 7) i.toNatClampNeg), .int (((mJ σ 0) ((mJ σ 8) i.toNatClampNeg).toNatClampNeg) - ((mJ σ 0) ((mJ σ 9) i.toNatClampNeg).toNatClampNeg))]) (rest := []) ⟨hx, hb, hml, hown, fun _ h9 => nomatch h9⟩ (K_Mo_put g σ ((mJ σ 7) i.toNatClampNeg) (((mJ σ 0) ((mJ σ 8) i.toNatClampNeg).toNatClampNeg) - ((mJ σ 0) ((mJ σ 9) i.toNatClampNeg).toNatClampNeg)) hq.2.1) (k_732 hT) (k_734 hT) (ks_30 hT) (k_735 hT) (k_9 hT) rfl (by decide +kernel) (va_recv hK hP (ci := 7) (q0 := 0) rfl rfl) (hc.at g hS hP) ⟨by decide, by decide⟩ ⟨by decide, by decide⟩ hl.1 (Nat.le_of_ble_eq_true rfl) d_Mo_compute_130 (fun _ h9 => h9) hS (fun _ _ _ _ _ _ _ h9 => h9.elim) (fun v t H locs ht9 hRt hz hk hS => ?_)
        obtain ⟨u, rfl, eu, hP⟩ := hRt
        rw [eu, ht9] at hP
        have hD : va_D (gA G) (mw G (puF σ ((mJ σ 7) i.toNatClampNeg) (((mJ σ 0) ((mJ σ 8) i.toNatClampNeg).toNatClampNeg) - ((mJ σ 0) ((mJ σ 9) i.toNatClampNeg).toNatClampNeg)))) := g.d
        refine W.eq (g2 := F0 m 133 ls []) rfl ?_
        refine lv_iload_n hx hb d_Mo_compute_133 rfl (lv_at hl 5 rfl) ?_
        refine lv_iconst (v := 4) hx hb d_Mo_compute_134 (by decide) ?_
        refine lv_icmp_ne (tgt := 152) hx hb d_Mo_compute_135 (by decide) (fun c135 => ?_) (fun c135 => ?_)
        · refine lv_iload_n hx hb d_Mo_compute_152 rfl (lv_at hl 5 rfl) ?_
          refine lv_iconst (v := 5) hx hb d_Mo_compute_153 (by decide) ?_
          refine lv_icmp_ne (tgt := 178) hx hb d_Mo_compute_154 (by decide) (fun c154 => ?_) (fun c154 => ?_)
          · refine lv_iload_n hx hb d_Mo_compute_178 rfl (lv_at hl 5 rfl) ?_
            refine lv_bipush (v := 6) hx hb d_Mo_compute_179 (by decide) ?_
            refine lv_icmp_ne (tgt := 202) hx hb d_Mo_compute_181 (by decide) (fun c181 => ?_) (fun c181 => ?_)
            · refine lv_iload_n hx hb d_Mo_compute_202 rfl (lv_at hl 5 rfl) ?_
              refine lv_bipush (v := 7) hx hb d_Mo_compute_203 (by decide) ?_
              refine lv_icmp_ne (tgt := 218) hx hb d_Mo_compute_205 (by decide) (fun c205 => ?_) (fun c205 => ?_)
              · refine lv_iload_n hx hb d_Mo_compute_218 rfl (lv_at hl 5 rfl) ?_
                refine lv_bipush (v := 8) hx hb d_Mo_compute_219 (by decide) ?_
                refine lv_icmp_ne (tgt := 244) hx hb d_Mo_compute_221 (by decide) (fun c221 => ?_) (fun c221 => ?_)
                · refine lv_iload_n hx hb d_Mo_compute_244 rfl (lv_at hl 5 rfl) ?_
                  refine lv_bipush (v := 9) hx hb d_Mo_compute_245 (by decide) ?_
                  refine lv_icmp_ne (tgt := 259) hx hb d_Mo_compute_247 (by decide) (fun c247 => ?_) (fun c247 => ?_)
                  · refine lv_iload_n hx hb d_Mo_compute_259 rfl (lv_at hl 5 rfl) ?_
                    refine lv_bipush (v := 10) hx hb d_Mo_compute_260 (by decide) ?_
                    refine lv_bipush (v := 13) hx hb d_Mo_compute_262 (by decide) ?_
                    refine cx_S (n := 3) (As := [.int ((mJ σ 6) i.toNatClampNeg), .int 10, .int 13]) (rest := []) ⟨hx, hb, hml, hown, fun _ h9 => nomatch h9⟩ (K_Mo_in g (puF σ ((mJ σ 7) i.toNatClampNeg) (((mJ σ 0) ((mJ σ 8) i.toNatClampNeg).toNatClampNeg) - ((mJ σ 0) ((mJ σ 9) i.toNatClampNeg).toNatClampNeg))) ((mJ σ 6) i.toNatClampNeg) 10 13 ) (k_666 hT) (k_667 hT) (k_668 hT) (k_9 hT) rfl (by decide +kernel) (hc.at g hS hP) ⟨by decide, by decide⟩ ⟨by decide, by decide⟩ hl.1 (Nat.le_of_ble_eq_true rfl) d_Mo_compute_264 (fun _ h9 => h9) hS (fun _ _ _ _ _ _ _ h9 => h9.elim) (fun v t H locs ht9 hRt hz hk hS => ?_)
                    obtain ⟨r, u, rfl, ⟨er, eu⟩, hP⟩ := hRt
                    subst er
                    rw [eu, ht9] at hP
                    have hD : va_D (gA G) (mw G (puF σ ((mJ σ 7) i.toNatClampNeg) (((mJ σ 0) ((mJ σ 8) i.toNatClampNeg).toNatClampNeg) - ((mJ σ 0) ((mJ σ 9) i.toNatClampNeg).toNatClampNeg)))) := g.d
                    refine W.eq (g2 := F0 m 267 ls [.int (b2i (inF ((mJ σ 6) i.toNatClampNeg) 10 13))]) rfl ?_
                    refine lv_if_eq (tgt := 292) hx hb d_Mo_compute_267 (by decide) (fun c267 => ?_) (fun c267 => ?_)
                    · refine lv_iload_n hx hb d_Mo_compute_292 rfl (lv_at hl 5 rfl) ?_
                      refine lv_bipush (v := 14) hx hb d_Mo_compute_293 (by decide) ?_
                      refine lv_icmp_ne (tgt := 321) hx hb d_Mo_compute_295 (by decide) (fun c295 => ?_) (fun c295 => ?_)
                      · refine lv_iload_n hx hb d_Mo_compute_321 rfl (lv_at hl 5 rfl) ?_
                        refine lv_bipush (v := 15) hx hb d_Mo_compute_322 (by decide) ?_
                        refine lv_icmp_ne (tgt := 342) hx hb d_Mo_compute_324 (by decide) (fun c324 => ?_) (fun c324 => ?_)
                        · refine lv_iload_n hx hb d_Mo_compute_342 rfl (lv_at hl 5 rfl) ?_
                          refine lv_bipush (v := 16) hx hb d_Mo_compute_343 (by decide) ?_
                          refine lv_icmp_ne (tgt := 361) hx hb d_Mo_compute_345 (by decide) (fun c345 => ?_) (fun c345 => ?_)
                          · exact mend_v (u := (puF σ ((mJ σ 7) i.toNatClampNeg) (((mJ σ 0) ((mJ σ 8) i.toNatClampNeg).toNatClampNeg) - ((mJ σ 0) ((mJ σ 9) i.toNatClampNeg).toNatClampNeg)))) hx hb hr hlocks hS hP d_Mo_compute_361 (by unfold cpM; (rw [if_neg (show ¬ mq σ (ix i) 0 = 1 from c74), if_neg (show ¬ mq σ (ix i) 0 = 2 from c97), if_pos (show mq σ (ix i) 0 = 3 from c116)]) <;> rfl)
                          · exact absurd (c116.symm.trans c345) (by decide)
                        · exact absurd (c116.symm.trans c324) (by decide)
                      · exact absurd (c116.symm.trans c295) (by decide)
                    · exact absurd (b2i1 c267) (by rw [c116]; decide)
                  · exact absurd (c116.symm.trans c247) (by decide)
                · exact absurd (c116.symm.trans c221) (by decide)
              · exact absurd (c116.symm.trans c205) (by decide)
            · exact absurd (c116.symm.trans c181) (by decide)
          · exact absurd (c116.symm.trans c154) (by decide)
        · exact absurd (c116.symm.trans c135) (by decide)
    · refine lv_aload_n hx hb d_Mo_compute_100 rfl (lv_at hl 6 rfl) ?_
      refine lv_aload_n hx hb d_Mo_compute_101 rfl (lv_at hl 6 rfl) ?_
      refine va_get (D := gD G) (ci := 7) (v := .ref (gad G 22)) (C := R_Mo) (T := F_Mo) (N := 29) hx hb (wl_Mo hT) (fun _ h9 => h9) hown hK hP 0 rfl rfl 1 (by decide) (k_571 hT) (fun _ h9 => h9) rfl d_Mo_compute_102 ?_
      refine lv_iload_n hx hb d_Mo_compute_105 rfl (lv_at hl 7 rfl) ?_
      refine va_iald (f := (mJ σ 7)) hx hb hK hP 2 0 rfl rfl (h) d_Mo_compute_106 ?_
      refine lv_iload_n hx hb d_Mo_compute_107 rfl (lv_at hl 4 rfl) ?_
      refine lv_iload hx hb d_Mo_compute_108 (lv_at hl 3 rfl) ?_
      refine lv_iadd hx hb d_Mo_compute_110 ?_
      refine cx_V (n := 2) (C := R_Mo) (As := [.int ((mJ σ 7) i.toNatClampNeg), .int (((mJ σ 0) ((mJ σ 8) i.toNatClampNeg).toNatClampNeg) + ((mJ σ 0) ((mJ σ 9) i.toNatClampNeg).toNatClampNeg))]) (rest := []) ⟨hx, hb, hml, hown, fun _ h9 => nomatch h9⟩ (K_Mo_put g σ ((mJ σ 7) i.toNatClampNeg) (((mJ σ 0) ((mJ σ 8) i.toNatClampNeg).toNatClampNeg) + ((mJ σ 0) ((mJ σ 9) i.toNatClampNeg).toNatClampNeg)) hq.2.1) (k_732 hT) (k_734 hT) (ks_30 hT) (k_735 hT) (k_9 hT) rfl (by decide +kernel) (va_recv hK hP (ci := 7) (q0 := 0) rfl rfl) (hc.at g hS hP) ⟨by decide, by decide⟩ ⟨by decide, by decide⟩ hl.1 (Nat.le_of_ble_eq_true rfl) d_Mo_compute_111 (fun _ h9 => h9) hS (fun _ _ _ _ _ _ _ h9 => h9.elim) (fun v t H locs ht9 hRt hz hk hS => ?_)
      obtain ⟨u, rfl, eu, hP⟩ := hRt
      rw [eu, ht9] at hP
      have hD : va_D (gA G) (mw G (puF σ ((mJ σ 7) i.toNatClampNeg) (((mJ σ 0) ((mJ σ 8) i.toNatClampNeg).toNatClampNeg) + ((mJ σ 0) ((mJ σ 9) i.toNatClampNeg).toNatClampNeg)))) := g.d
      refine W.eq (g2 := F0 m 114 ls []) rfl ?_
      refine lv_iload_n hx hb d_Mo_compute_114 rfl (lv_at hl 5 rfl) ?_
      refine lv_iconst (v := 3) hx hb d_Mo_compute_115 (by decide) ?_
      refine lv_icmp_ne (tgt := 133) hx hb d_Mo_compute_116 (by decide) (fun c116 => ?_) (fun c116 => ?_)
      · refine lv_iload_n hx hb d_Mo_compute_133 rfl (lv_at hl 5 rfl) ?_
        refine lv_iconst (v := 4) hx hb d_Mo_compute_134 (by decide) ?_
        refine lv_icmp_ne (tgt := 152) hx hb d_Mo_compute_135 (by decide) (fun c135 => ?_) (fun c135 => ?_)
        · refine lv_iload_n hx hb d_Mo_compute_152 rfl (lv_at hl 5 rfl) ?_
          refine lv_iconst (v := 5) hx hb d_Mo_compute_153 (by decide) ?_
          refine lv_icmp_ne (tgt := 178) hx hb d_Mo_compute_154 (by decide) (fun c154 => ?_) (fun c154 => ?_)
          · refine lv_iload_n hx hb d_Mo_compute_178 rfl (lv_at hl 5 rfl) ?_
            refine lv_bipush (v := 6) hx hb d_Mo_compute_179 (by decide) ?_
            refine lv_icmp_ne (tgt := 202) hx hb d_Mo_compute_181 (by decide) (fun c181 => ?_) (fun c181 => ?_)
            · refine lv_iload_n hx hb d_Mo_compute_202 rfl (lv_at hl 5 rfl) ?_
              refine lv_bipush (v := 7) hx hb d_Mo_compute_203 (by decide) ?_
              refine lv_icmp_ne (tgt := 218) hx hb d_Mo_compute_205 (by decide) (fun c205 => ?_) (fun c205 => ?_)
              · refine lv_iload_n hx hb d_Mo_compute_218 rfl (lv_at hl 5 rfl) ?_
                refine lv_bipush (v := 8) hx hb d_Mo_compute_219 (by decide) ?_
                refine lv_icmp_ne (tgt := 244) hx hb d_Mo_compute_221 (by decide) (fun c221 => ?_) (fun c221 => ?_)
                · refine lv_iload_n hx hb d_Mo_compute_244 rfl (lv_at hl 5 rfl) ?_
                  refine lv_bipush (v := 9) hx hb d_Mo_compute_245 (by decide) ?_
                  refine lv_icmp_ne (tgt := 259) hx hb d_Mo_compute_247 (by decide) (fun c247 => ?_) (fun c247 => ?_)
                  · refine lv_iload_n hx hb d_Mo_compute_259 rfl (lv_at hl 5 rfl) ?_
                    refine lv_bipush (v := 10) hx hb d_Mo_compute_260 (by decide) ?_
                    refine lv_bipush (v := 13) hx hb d_Mo_compute_262 (by decide) ?_
                    refine cx_S (n := 3) (As := [.int ((mJ σ 6) i.toNatClampNeg), .int 10, .int 13]) (rest := []) ⟨hx, hb, hml, hown, fun _ h9 => nomatch h9⟩ (K_Mo_in g (puF σ ((mJ σ 7) i.toNatClampNeg) (((mJ σ 0) ((mJ σ 8) i.toNatClampNeg).toNatClampNeg) + ((mJ σ 0) ((mJ σ 9) i.toNatClampNeg).toNatClampNeg))) ((mJ σ 6) i.toNatClampNeg) 10 13 ) (k_666 hT) (k_667 hT) (k_668 hT) (k_9 hT) rfl (by decide +kernel) (hc.at g hS hP) ⟨by decide, by decide⟩ ⟨by decide, by decide⟩ hl.1 (Nat.le_of_ble_eq_true rfl) d_Mo_compute_264 (fun _ h9 => h9) hS (fun _ _ _ _ _ _ _ h9 => h9.elim) (fun v t H locs ht9 hRt hz hk hS => ?_)
                    obtain ⟨r, u, rfl, ⟨er, eu⟩, hP⟩ := hRt
                    subst er
                    rw [eu, ht9] at hP
                    have hD : va_D (gA G) (mw G (puF σ ((mJ σ 7) i.toNatClampNeg) (((mJ σ 0) ((mJ σ 8) i.toNatClampNeg).toNatClampNeg) + ((mJ σ 0) ((mJ σ 9) i.toNatClampNeg).toNatClampNeg)))) := g.d
                    refine W.eq (g2 := F0 m 267 ls [.int (b2i (inF ((mJ σ 6) i.toNatClampNeg) 10 13))]) rfl ?_
                    refine lv_if_eq (tgt := 292) hx hb d_Mo_compute_267 (by decide) (fun c267 => ?_) (fun c267 => ?_)
                    · refine lv_iload_n hx hb d_Mo_compute_292 rfl (lv_at hl 5 rfl) ?_
                      refine lv_bipush (v := 14) hx hb d_Mo_compute_293 (by decide) ?_
                      refine lv_icmp_ne (tgt := 321) hx hb d_Mo_compute_295 (by decide) (fun c295 => ?_) (fun c295 => ?_)
                      · refine lv_iload_n hx hb d_Mo_compute_321 rfl (lv_at hl 5 rfl) ?_
                        refine lv_bipush (v := 15) hx hb d_Mo_compute_322 (by decide) ?_
                        refine lv_icmp_ne (tgt := 342) hx hb d_Mo_compute_324 (by decide) (fun c324 => ?_) (fun c324 => ?_)
                        · refine lv_iload_n hx hb d_Mo_compute_342 rfl (lv_at hl 5 rfl) ?_
                          refine lv_bipush (v := 16) hx hb d_Mo_compute_343 (by decide) ?_
                          refine lv_icmp_ne (tgt := 361) hx hb d_Mo_compute_345 (by decide) (fun c345 => ?_) (fun c345 => ?_)
                          · exact mend_v (u := (puF σ ((mJ σ 7) i.toNatClampNeg) (((mJ σ 0) ((mJ σ 8) i.toNatClampNeg).toNatClampNeg) + ((mJ σ 0) ((mJ σ 9) i.toNatClampNeg).toNatClampNeg)))) hx hb hr hlocks hS hP d_Mo_compute_361 (by unfold cpM; (rw [if_neg (show ¬ mq σ (ix i) 0 = 1 from c74), if_pos (show mq σ (ix i) 0 = 2 from c97)]) <;> rfl)
                          · exact absurd (c97.symm.trans c345) (by decide)
                        · exact absurd (c97.symm.trans c324) (by decide)
                      · exact absurd (c97.symm.trans c295) (by decide)
                    · exact absurd (b2i1 c267) (by rw [c97]; decide)
                  · exact absurd (c97.symm.trans c247) (by decide)
                · exact absurd (c97.symm.trans c221) (by decide)
              · exact absurd (c97.symm.trans c205) (by decide)
            · exact absurd (c97.symm.trans c181) (by decide)
          · exact absurd (c97.symm.trans c154) (by decide)
        · exact absurd (c97.symm.trans c135) (by decide)
      · exact absurd (c97.symm.trans c116) (by decide)
  · refine lv_aload_n hx hb d_Mo_compute_77 rfl (lv_at hl 6 rfl) ?_
    refine lv_aload_n hx hb d_Mo_compute_78 rfl (lv_at hl 6 rfl) ?_
    refine va_get (D := gD G) (ci := 7) (v := .ref (gad G 22)) (C := R_Mo) (T := F_Mo) (N := 29) hx hb (wl_Mo hT) (fun _ h9 => h9) hown hK hP 0 rfl rfl 1 (by decide) (k_571 hT) (fun _ h9 => h9) rfl d_Mo_compute_79 ?_
    refine lv_iload_n hx hb d_Mo_compute_82 rfl (lv_at hl 7 rfl) ?_
    refine va_iald (f := (mJ σ 7)) hx hb hK hP 2 0 rfl rfl (h) d_Mo_compute_83 ?_
    refine lv_iload_n hx hb d_Mo_compute_84 rfl (lv_at hl 4 rfl) ?_
    refine lv_aload_n hx hb d_Mo_compute_85 rfl (lv_at hl 6 rfl) ?_
    refine va_get (D := gD G) (ci := 7) (v := .ref (gad G 25)) (C := R_Mo) (T := F_Mo) (N := 29) hx hb (wl_Mo hT) (fun _ h9 => h9) hown hK hP 0 rfl rfl 4 (by decide) (k_574 hT) (fun _ h9 => h9) rfl d_Mo_compute_86 ?_
    refine lv_iload_n hx hb d_Mo_compute_89 rfl (lv_at hl 7 rfl) ?_
    refine va_iald (f := (mJ σ 10)) hx hb hK hP 5 0 rfl rfl (h) d_Mo_compute_90 ?_
    refine lv_iadd hx hb d_Mo_compute_91 ?_
    refine cx_V (n := 2) (C := R_Mo) (As := [.int ((mJ σ 7) i.toNatClampNeg), .int (((mJ σ 0) ((mJ σ 8) i.toNatClampNeg).toNatClampNeg) + ((mJ σ 10) i.toNatClampNeg))]) (rest := []) ⟨hx, hb, hml, hown, fun _ h9 => nomatch h9⟩ (K_Mo_put g σ ((mJ σ 7) i.toNatClampNeg) (((mJ σ 0) ((mJ σ 8) i.toNatClampNeg).toNatClampNeg) + ((mJ σ 10) i.toNatClampNeg)) hq.2.1) (k_732 hT) (k_734 hT) (ks_30 hT) (k_735 hT) (k_9 hT) rfl (by decide +kernel) (va_recv hK hP (ci := 7) (q0 := 0) rfl rfl) (hc.at g hS hP) ⟨by decide, by decide⟩ ⟨by decide, by decide⟩ hl.1 (Nat.le_of_ble_eq_true rfl) d_Mo_compute_92 (fun _ h9 => h9) hS (fun _ _ _ _ _ _ _ h9 => h9.elim) (fun v t H locs ht9 hRt hz hk hS => ?_)
    obtain ⟨u, rfl, eu, hP⟩ := hRt
    rw [eu, ht9] at hP
    have hD : va_D (gA G) (mw G (puF σ ((mJ σ 7) i.toNatClampNeg) (((mJ σ 0) ((mJ σ 8) i.toNatClampNeg).toNatClampNeg) + ((mJ σ 10) i.toNatClampNeg)))) := g.d
    refine W.eq (g2 := F0 m 95 ls []) rfl ?_
    refine lv_iload_n hx hb d_Mo_compute_95 rfl (lv_at hl 5 rfl) ?_
    refine lv_iconst (v := 2) hx hb d_Mo_compute_96 (by decide) ?_
    refine lv_icmp_ne (tgt := 114) hx hb d_Mo_compute_97 (by decide) (fun c97 => ?_) (fun c97 => ?_)
    · refine lv_iload_n hx hb d_Mo_compute_114 rfl (lv_at hl 5 rfl) ?_
      refine lv_iconst (v := 3) hx hb d_Mo_compute_115 (by decide) ?_
      refine lv_icmp_ne (tgt := 133) hx hb d_Mo_compute_116 (by decide) (fun c116 => ?_) (fun c116 => ?_)
      · refine lv_iload_n hx hb d_Mo_compute_133 rfl (lv_at hl 5 rfl) ?_
        refine lv_iconst (v := 4) hx hb d_Mo_compute_134 (by decide) ?_
        refine lv_icmp_ne (tgt := 152) hx hb d_Mo_compute_135 (by decide) (fun c135 => ?_) (fun c135 => ?_)
        · refine lv_iload_n hx hb d_Mo_compute_152 rfl (lv_at hl 5 rfl) ?_
          refine lv_iconst (v := 5) hx hb d_Mo_compute_153 (by decide) ?_
          refine lv_icmp_ne (tgt := 178) hx hb d_Mo_compute_154 (by decide) (fun c154 => ?_) (fun c154 => ?_)
          · refine lv_iload_n hx hb d_Mo_compute_178 rfl (lv_at hl 5 rfl) ?_
            refine lv_bipush (v := 6) hx hb d_Mo_compute_179 (by decide) ?_
            refine lv_icmp_ne (tgt := 202) hx hb d_Mo_compute_181 (by decide) (fun c181 => ?_) (fun c181 => ?_)
            · refine lv_iload_n hx hb d_Mo_compute_202 rfl (lv_at hl 5 rfl) ?_
              refine lv_bipush (v := 7) hx hb d_Mo_compute_203 (by decide) ?_
              refine lv_icmp_ne (tgt := 218) hx hb d_Mo_compute_205 (by decide) (fun c205 => ?_) (fun c205 => ?_)
              · refine lv_iload_n hx hb d_Mo_compute_218 rfl (lv_at hl 5 rfl) ?_
                refine lv_bipush (v := 8) hx hb d_Mo_compute_219 (by decide) ?_
                refine lv_icmp_ne (tgt := 244) hx hb d_Mo_compute_221 (by decide) (fun c221 => ?_) (fun c221 => ?_)
                · refine lv_iload_n hx hb d_Mo_compute_244 rfl (lv_at hl 5 rfl) ?_
                  refine lv_bipush (v := 9) hx hb d_Mo_compute_245 (by decide) ?_
                  refine lv_icmp_ne (tgt := 259) hx hb d_Mo_compute_247 (by decide) (fun c247 => ?_) (fun c247 => ?_)
                  · refine lv_iload_n hx hb d_Mo_compute_259 rfl (lv_at hl 5 rfl) ?_
                    refine lv_bipush (v := 10) hx hb d_Mo_compute_260 (by decide) ?_
                    refine lv_bipush (v := 13) hx hb d_Mo_compute_262 (by decide) ?_
                    refine cx_S (n := 3) (As := [.int ((mJ σ 6) i.toNatClampNeg), .int 10, .int 13]) (rest := []) ⟨hx, hb, hml, hown, fun _ h9 => nomatch h9⟩ (K_Mo_in g (puF σ ((mJ σ 7) i.toNatClampNeg) (((mJ σ 0) ((mJ σ 8) i.toNatClampNeg).toNatClampNeg) + ((mJ σ 10) i.toNatClampNeg))) ((mJ σ 6) i.toNatClampNeg) 10 13 ) (k_666 hT) (k_667 hT) (k_668 hT) (k_9 hT) rfl (by decide +kernel) (hc.at g hS hP) ⟨by decide, by decide⟩ ⟨by decide, by decide⟩ hl.1 (Nat.le_of_ble_eq_true rfl) d_Mo_compute_264 (fun _ h9 => h9) hS (fun _ _ _ _ _ _ _ h9 => h9.elim) (fun v t H locs ht9 hRt hz hk hS => ?_)
                    obtain ⟨r, u, rfl, ⟨er, eu⟩, hP⟩ := hRt
                    subst er
                    rw [eu, ht9] at hP
                    have hD : va_D (gA G) (mw G (puF σ ((mJ σ 7) i.toNatClampNeg) (((mJ σ 0) ((mJ σ 8) i.toNatClampNeg).toNatClampNeg) + ((mJ σ 10) i.toNatClampNeg)))) := g.d
                    refine W.eq (g2 := F0 m 267 ls [.int (b2i (inF ((mJ σ 6) i.toNatClampNeg) 10 13))]) rfl ?_
                    refine lv_if_eq (tgt := 292) hx hb d_Mo_compute_267 (by decide) (fun c267 => ?_) (fun c267 => ?_)
                    · refine lv_iload_n hx hb d_Mo_compute_292 rfl (lv_at hl 5 rfl) ?_
                      refine lv_bipush (v := 14) hx hb d_Mo_compute_293 (by decide) ?_
                      refine lv_icmp_ne (tgt := 321) hx hb d_Mo_compute_295 (by decide) (fun c295 => ?_) (fun c295 => ?_)
                      · refine lv_iload_n hx hb d_Mo_compute_321 rfl (lv_at hl 5 rfl) ?_
                        refine lv_bipush (v := 15) hx hb d_Mo_compute_322 (by decide) ?_
                        refine lv_icmp_ne (tgt := 342) hx hb d_Mo_compute_324 (by decide) (fun c324 => ?_) (fun c324 => ?_)
                        · refine lv_iload_n hx hb d_Mo_compute_342 rfl (lv_at hl 5 rfl) ?_
                          refine lv_bipush (v := 16) hx hb d_Mo_compute_343 (by decide) ?_
                          refine lv_icmp_ne (tgt := 361) hx hb d_Mo_compute_345 (by decide) (fun c345 => ?_) (fun c345 => ?_)
                          · exact mend_v (u := (puF σ ((mJ σ 7) i.toNatClampNeg) (((mJ σ 0) ((mJ σ 8) i.toNatClampNeg).toNatClampNeg) + ((mJ σ 10) i.toNatClampNeg)))) hx hb hr hlocks hS hP d_Mo_compute_361 (by unfold cpM; (rw [if_pos (show mq σ (ix i) 0 = 1 from c74)]) <;> rfl)
                          · exact absurd (c74.symm.trans c345) (by decide)
                        · exact absurd (c74.symm.trans c324) (by decide)
                      · exact absurd (c74.symm.trans c295) (by decide)
                    · exact absurd (b2i1 c267) (by rw [c74]; decide)
                  · exact absurd (c74.symm.trans c247) (by decide)
                · exact absurd (c74.symm.trans c221) (by decide)
              · exact absurd (c74.symm.trans c205) (by decide)
            · exact absurd (c74.symm.trans c181) (by decide)
          · exact absurd (c74.symm.trans c154) (by decide)
        · exact absurd (c74.symm.trans c135) (by decide)
      · exact absurd (c74.symm.trans c116) (by decide)
    · exact absurd (c74.symm.trans c97) (by decide)

set_option maxHeartbeats 4000000 in
set_option maxRecDepth 100000 in
theorem K_Mo_trouble {l : Launch} {G : GT} (g : MOK l G) (σ : MS) (i : Int32) (h : vp_in i 24) (hq : okM (mq σ (ix i))) (hf : ∀ j, j < 4 → fp_fin (mF σ 1 j)) : cx_M l y_Mo_trouble (.code y_Mo_trouble b_Mo_trouble 9 (some .int)) 1 25 (gA G) [.ref (gad G 20), .int i] (Mw G σ) (Mi G (fun r u => r = trF σ (mq σ (ix i)) ∧ u = σ)) (Tn) := by
  refine cx_of (by decide +kernel) ?_
  intro p e s m below meth c s₁ B hml ht hc
  have hx := B.exec
  have hb := B.bytes
  have hr := B.returns
  have hown : s.vm.findClass R_Mo = some m.cls := findClass_of_methodNamed B.named
  have hlocks := B.notSynchronized
  have hT := g.tb hc
  have hK := g.k hc
  have hD := g.d (τ := σ)
  have hS : va_S (gA G) s.heap s.heap [] := va_S.rf
  have hP := hc.2.2
  have hl := lv_entry ([.ref (gad G 20), .int i]) (n := 9) (Nat.le_of_ble_eq_true rfl)
  rw [lg_entry_eq]
  generalize (lg_sl ([.ref (gad G 20), .int i]) ++ List.replicate (9 - (lg_sl ([.ref (gad G 20), .int i])).length) Slot.unset).toArray = ls at hl ⊢
  have hl : lv_has ls 9 [(0, .ref (gad G 20)), (1, .int i)] := hl
  refine lv_aload_n hx hb d_Mo_trouble_0 rfl (lv_at hl 0 rfl) ?_
  refine va_get (D := gD G) (ci := 7) (v := .ref (gad G 21)) (C := R_Mo) (T := F_Mo) (N := 29) hx hb (wl_Mo hT) (fun _ h9 => h9) hown hK hP 0 rfl rfl 0 (by decide) (k_570 hT) (fun _ h9 => h9) rfl d_Mo_trouble_1 ?_
  refine lv_iload_n hx hb d_Mo_trouble_4 rfl (lv_at hl 1 rfl) ?_
  refine va_iald (f := (mJ σ 6)) hx hb hK hP 1 0 rfl rfl (h) d_Mo_trouble_5 ?_
  refine lv_istore_n (lv' := [(2, .int ((mJ σ 6) i.toNatClampNeg)), (0, .ref (gad G 20)), (1, .int i)]) hx hb d_Mo_trouble_6 rfl hl (by decide) rfl (fun ls hl => ?_)
  refine lv_iload_n hx hb d_Mo_trouble_7 rfl (lv_at hl 0 rfl) ?_
  refine lv_bipush (v := 6) hx hb d_Mo_trouble_8 (by decide) ?_
  refine lv_bipush (v := 9) hx hb d_Mo_trouble_10 (by decide) ?_
  refine cx_S (n := 3) (As := [.int ((mJ σ 6) i.toNatClampNeg), .int 6, .int 9]) (rest := []) ⟨hx, hb, hml, hown, fun _ h9 => nomatch h9⟩ (K_Mo_in g σ ((mJ σ 6) i.toNatClampNeg) 6 9 ) (k_666 hT) (k_667 hT) (k_668 hT) (k_9 hT) rfl (by decide +kernel) (hc.at g hS hP) ⟨by decide, by decide⟩ ⟨by decide, by decide⟩ hl.1 (Nat.le_of_ble_eq_true rfl) d_Mo_trouble_12 (fun _ h9 => h9) hS (fun _ _ _ _ _ _ _ h9 => h9.elim) (fun v t H locs ht9 hRt hz hk hS => ?_)
  obtain ⟨r, u, rfl, ⟨er, eu⟩, hP⟩ := hRt
  subst er
  rw [eu, ht9] at hP
  have hD : va_D (gA G) (mw G σ) := g.d
  refine W.eq (g2 := F0 m 15 ls [.int (b2i (inF ((mJ σ 6) i.toNatClampNeg) 6 9))]) rfl ?_
  refine lv_if_eq (tgt := 47) hx hb d_Mo_trouble_15 (by decide) (fun c15 => ?_) (fun c15 => ?_)
  · have c15 := b2i0 c15
    refine lv_iload_n hx hb d_Mo_trouble_47 rfl (lv_at hl 0 rfl) ?_
    refine lv_bipush (v := 10) hx hb d_Mo_trouble_48 (by decide) ?_
    refine lv_bipush (v := 13) hx hb d_Mo_trouble_50 (by decide) ?_
    refine cx_S (n := 3) (As := [.int ((mJ σ 6) i.toNatClampNeg), .int 10, .int 13]) (rest := []) ⟨hx, hb, hml, hown, fun _ h9 => nomatch h9⟩ (K_Mo_in g σ ((mJ σ 6) i.toNatClampNeg) 10 13 ) (k_666 hT) (k_667 hT) (k_668 hT) (k_9 hT) rfl (by decide +kernel) (hc.at g hS hP) ⟨by decide, by decide⟩ ⟨by decide, by decide⟩ hl.1 (Nat.le_of_ble_eq_true rfl) d_Mo_trouble_52 (fun _ h9 => h9) hS (fun _ _ _ _ _ _ _ h9 => h9.elim) (fun v t H locs ht9 hRt hz hk hS => ?_)
    obtain ⟨r, u, rfl, ⟨er, eu⟩, hP⟩ := hRt
    subst er
    rw [eu, ht9] at hP
    have hD : va_D (gA G) (mw G σ) := g.d
    refine W.eq (g2 := F0 m 55 ls [.int (b2i (inF ((mJ σ 6) i.toNatClampNeg) 10 13))]) rfl ?_
    refine lv_if_ne (tgt := 60) hx hb d_Mo_trouble_55 (by decide) (fun c55 => ?_) (fun c55 => ?_)
    · have c55 := b2i1 c55
      refine lv_aload_n hx hb d_Mo_trouble_60 rfl (lv_at hl 1 rfl) ?_
      refine va_get (D := gD G) (ci := 7) (v := .ref (gad G 32)) (C := R_Mo) (T := F_Mo) (N := 29) hx hb (wl_Mo hT) (fun _ h9 => h9) hown hK hP 0 rfl rfl 11 (by decide) (k_581 hT) (fun _ h9 => h9) rfl d_Mo_trouble_61 ?_
      refine lv_aload_n hx hb d_Mo_trouble_64 rfl (lv_at hl 1 rfl) ?_
      refine va_get (D := gD G) (ci := 7) (v := .ref (gad G 23)) (C := R_Mo) (T := F_Mo) (N := 29) hx hb (wl_Mo hT) (fun _ h9 => h9) hown hK hP 0 rfl rfl 2 (by decide) (k_572 hT) (fun _ h9 => h9) rfl d_Mo_trouble_65 ?_
      refine lv_iload_n hx hb d_Mo_trouble_68 rfl (lv_at hl 2 rfl) ?_
      refine va_iald (f := (mJ σ 8)) hx hb hK hP 3 0 rfl rfl (h) d_Mo_trouble_69 ?_
      refine lv_iconst (v := 4) hx hb d_Mo_trouble_70 (by decide) ?_
      refine lv_irem hx hb d_Mo_trouble_71 (by decide) ?_
      refine va_dald (f := (mF σ 1)) hx hb hK hP 12 1 rfl rfl (m4_in hq.2.2.1) d_Mo_trouble_72 ?_
      refine lv_dstore_n (lv' := [(3, .double ((mF σ 1) (((mJ σ 8) i.toNatClampNeg) - ((mJ σ 8) i.toNatClampNeg) / 4 * 4).toNatClampNeg)), (2, .int ((mJ σ 6) i.toNatClampNeg)), (0, .ref (gad G 20)), (1, .int i)]) hx hb d_Mo_trouble_73 rfl hl (by decide) rfl (fun ls hl => ?_)
      refine lv_aload_n hx hb d_Mo_trouble_74 rfl (lv_at hl 2 rfl) ?_
      refine va_get (D := gD G) (ci := 7) (v := .ref (gad G 32)) (C := R_Mo) (T := F_Mo) (N := 29) hx hb (wl_Mo hT) (fun _ h9 => h9) hown hK hP 0 rfl rfl 11 (by decide) (k_581 hT) (fun _ h9 => h9) rfl d_Mo_trouble_75 ?_
      refine lv_aload_n hx hb d_Mo_trouble_78 rfl (lv_at hl 2 rfl) ?_
      refine va_get (D := gD G) (ci := 7) (v := .ref (gad G 24)) (C := R_Mo) (T := F_Mo) (N := 29) hx hb (wl_Mo hT) (fun _ h9 => h9) hown hK hP 0 rfl rfl 3 (by decide) (k_573 hT) (fun _ h9 => h9) rfl d_Mo_trouble_79 ?_
      refine lv_iload_n hx hb d_Mo_trouble_82 rfl (lv_at hl 3 rfl) ?_
      refine va_iald (f := (mJ σ 9)) hx hb hK hP 4 0 rfl rfl (h) d_Mo_trouble_83 ?_
      refine lv_iconst (v := 4) hx hb d_Mo_trouble_84 (by decide) ?_
      refine lv_irem hx hb d_Mo_trouble_85 (by decide) ?_
      refine va_dald (f := (mF σ 1)) hx hb hK hP 12 1 rfl rfl (m4_in hq.2.2.2) d_Mo_trouble_86 ?_
      refine lv_dstore (lv' := [(5, .double ((mF σ 1) (((mJ σ 9) i.toNatClampNeg) - ((mJ σ 9) i.toNatClampNeg) / 4 * 4).toNatClampNeg)), (3, .double ((mF σ 1) (((mJ σ 8) i.toNatClampNeg) - ((mJ σ 8) i.toNatClampNeg) / 4 * 4).toNatClampNeg)), (2, .int ((mJ σ 6) i.toNatClampNeg)), (0, .ref (gad G 20)), (1, .int i)]) hx hb d_Mo_trouble_87 hl (by decide) rfl (fun ls hl => ?_)
      refine lv_iload_n hx hb d_Mo_trouble_89 rfl (lv_at hl 2 rfl) ?_
      refine lv_bipush (v := 13) hx hb d_Mo_trouble_90 (by decide) ?_
      refine lv_icmp_ne (tgt := 104) hx hb d_Mo_trouble_92 (by decide) (fun c92 => ?_) (fun c92 => ?_)
      · refine lv_aload_n hx hb d_Mo_trouble_104 rfl (lv_at hl 3 rfl) ?_
        refine lv_iload_n hx hb d_Mo_trouble_105 rfl (lv_at hl 2 rfl) ?_
        refine lv_dload_n hx hb d_Mo_trouble_106 rfl (lv_at hl 1 rfl) ?_
        refine lv_dload hx hb d_Mo_trouble_107 (lv_at hl 0 rfl) ?_
        refine cx_V (n := 3) (C := R_Mo) (As := [.int ((mJ σ 6) i.toNatClampNeg), .double ((mF σ 1) (((mJ σ 8) i.toNatClampNeg) - ((mJ σ 8) i.toNatClampNeg) / 4 * 4).toNatClampNeg), .double ((mF σ 1) (((mJ σ 9) i.toNatClampNeg) - ((mJ σ 9) i.toNatClampNeg) / 4 * 4).toNatClampNeg)]) (rest := []) ⟨hx, hb, hml, hown, fun _ h9 => nomatch h9⟩ (K_Mo_reckon g σ ((mJ σ 6) i.toNatClampNeg) ((mF σ 1) (((mJ σ 8) i.toNatClampNeg) - ((mJ σ 8) i.toNatClampNeg) / 4 * 4).toNatClampNeg) ((mF σ 1) (((mJ σ 9) i.toNatClampNeg) - ((mJ σ 9) i.toNatClampNeg) / 4 * 4).toNatClampNeg) (hf _ (vp_lt (m4_in hq.2.2.1))) (hf _ (vp_lt (m4_in hq.2.2.2))) (fun h1 h2 h3 => absurd ((((in1013 c55).resolve_left h1).resolve_left h2).resolve_left h3) c92)) (k_699 hT) (k_701 hT) (ks_23 hT) (k_702 hT) (k_9 hT) rfl (by decide +kernel) (va_recv hK hP (ci := 7) (q0 := 0) rfl rfl) (hc.at g hS hP) ⟨by decide, by decide⟩ ⟨by decide, by decide⟩ hl.1 (Nat.le_of_ble_eq_true rfl) d_Mo_trouble_109 (fun _ h9 => h9) hS (fun _ _ _ _ _ _ _ h9 => h9.elim) (fun v t H locs ht9 hRt hz hk hS => ?_)
        obtain ⟨r, u, rfl, ⟨er, eu⟩, hP⟩ := hRt
        subst er
        rw [eu, ht9] at hP
        have hD : va_D (gA G) (mw G σ) := g.d
        refine W.eq (g2 := F0 m 112 ls [.double (ocF ((mJ σ 6) i.toNatClampNeg) ((mF σ 1) (((mJ σ 8) i.toNatClampNeg) - ((mJ σ 8) i.toNatClampNeg) / 4 * 4).toNatClampNeg) ((mF σ 1) (((mJ σ 9) i.toNatClampNeg) - ((mJ σ 9) i.toNatClampNeg) / 4 * 4).toNatClampNeg))]) rfl ?_
        refine lv_dstore (lv' := [(7, .double (ocF ((mJ σ 6) i.toNatClampNeg) ((mF σ 1) (((mJ σ 8) i.toNatClampNeg) - ((mJ σ 8) i.toNatClampNeg) / 4 * 4).toNatClampNeg) ((mF σ 1) (((mJ σ 9) i.toNatClampNeg) - ((mJ σ 9) i.toNatClampNeg) / 4 * 4).toNatClampNeg))), (5, .double ((mF σ 1) (((mJ σ 9) i.toNatClampNeg) - ((mJ σ 9) i.toNatClampNeg) / 4 * 4).toNatClampNeg)), (3, .double ((mF σ 1) (((mJ σ 8) i.toNatClampNeg) - ((mJ σ 8) i.toNatClampNeg) / 4 * 4).toNatClampNeg)), (2, .int ((mJ σ 6) i.toNatClampNeg)), (0, .ref (gad G 20)), (1, .int i)]) hx hb d_Mo_trouble_112 hl (by decide) rfl (fun ls hl => ?_)
        refine lv_dload hx hb d_Mo_trouble_114 (lv_at hl 0 rfl) ?_
        refine lv_ldc2d (v := 4741671816366391296) hx hb hown (k_703 hT) d_Mo_trouble_116 ?_
        refine lv_dcmp hx hb d_Mo_trouble_119 ?_
        refine lv_if_gt (tgt := 132) hx hb d_Mo_trouble_120 (by decide) (fun c120 => ?_) (fun c120 => ?_)
        · refine lv_iconst (v := 4) hx hb d_Mo_trouble_132 (by decide) ?_
          refine lv_goto (tgt := 137) hx hb d_Mo_trouble_133 (by decide) ?_
          exact mend_i (u := σ) hx hb hr hlocks hS hP d_Mo_trouble_137 (⟨by unfold trF tr2 tr3 adM mq; simp [ix, m4, ovF, lim9, lim9m, c15, c55, c92, c120], rfl⟩)
        · refine lv_dload hx hb d_Mo_trouble_123 (lv_at hl 0 rfl) ?_
          refine lv_ldc2d (v := 13965043853221167104) hx hb hown (k_704 hT) d_Mo_trouble_125 ?_
          refine lv_dcmp hx hb d_Mo_trouble_128 ?_
          refine lv_if_ge (tgt := 136) hx hb d_Mo_trouble_129 (by decide) (fun c129 => ?_) (fun c129 => ?_)
          · refine lv_iconst (v := 0) hx hb d_Mo_trouble_136 (by decide) ?_
            exact mend_i (u := σ) hx hb hr hlocks hS hP d_Mo_trouble_137 (⟨by unfold trF tr2 tr3 adM mq; simp [ix, m4, ovF, lim9, lim9m, c15, c55, c92, c120, c129], rfl⟩)
          · refine lv_iconst (v := 4) hx hb d_Mo_trouble_132 (by decide) ?_
            refine lv_goto (tgt := 137) hx hb d_Mo_trouble_133 (by decide) ?_
            exact mend_i (u := σ) hx hb hr hlocks hS hP d_Mo_trouble_137 (⟨by unfold trF tr2 tr3 adM mq; simp [ix, m4, ovF, lim9, lim9m, c15, c55, c92, c120, c129], rfl⟩)
      · refine lv_dload hx hb d_Mo_trouble_95 (lv_at hl 0 rfl) ?_
        refine lv_dconst0 hx hb d_Mo_trouble_97 ?_
        refine lv_dcmp hx hb d_Mo_trouble_98 ?_
        refine lv_if_ne (tgt := 104) hx hb d_Mo_trouble_99 (by decide) (fun c99 => ?_) (fun c99 => ?_)
        · refine lv_aload_n hx hb d_Mo_trouble_104 rfl (lv_at hl 3 rfl) ?_
          refine lv_iload_n hx hb d_Mo_trouble_105 rfl (lv_at hl 2 rfl) ?_
          refine lv_dload_n hx hb d_Mo_trouble_106 rfl (lv_at hl 1 rfl) ?_
          refine lv_dload hx hb d_Mo_trouble_107 (lv_at hl 0 rfl) ?_
          refine cx_V (n := 3) (C := R_Mo) (As := [.int ((mJ σ 6) i.toNatClampNeg), .double ((mF σ 1) (((mJ σ 8) i.toNatClampNeg) - ((mJ σ 8) i.toNatClampNeg) / 4 * 4).toNatClampNeg), .double ((mF σ 1) (((mJ σ 9) i.toNatClampNeg) - ((mJ σ 9) i.toNatClampNeg) / 4 * 4).toNatClampNeg)]) (rest := []) ⟨hx, hb, hml, hown, fun _ h9 => nomatch h9⟩ (K_Mo_reckon g σ ((mJ σ 6) i.toNatClampNeg) ((mF σ 1) (((mJ σ 8) i.toNatClampNeg) - ((mJ σ 8) i.toNatClampNeg) / 4 * 4).toNatClampNeg) ((mF σ 1) (((mJ σ 9) i.toNatClampNeg) - ((mJ σ 9) i.toNatClampNeg) / 4 * 4).toNatClampNeg) (hf _ (vp_lt (m4_in hq.2.2.1))) (hf _ (vp_lt (m4_in hq.2.2.2))) (fun _ _ _ => c99)) (k_699 hT) (k_701 hT) (ks_23 hT) (k_702 hT) (k_9 hT) rfl (by decide +kernel) (va_recv hK hP (ci := 7) (q0 := 0) rfl rfl) (hc.at g hS hP) ⟨by decide, by decide⟩ ⟨by decide, by decide⟩ hl.1 (Nat.le_of_ble_eq_true rfl) d_Mo_trouble_109 (fun _ h9 => h9) hS (fun _ _ _ _ _ _ _ h9 => h9.elim) (fun v t H locs ht9 hRt hz hk hS => ?_)
          obtain ⟨r, u, rfl, ⟨er, eu⟩, hP⟩ := hRt
          subst er
          rw [eu, ht9] at hP
          have hD : va_D (gA G) (mw G σ) := g.d
          refine W.eq (g2 := F0 m 112 ls [.double (ocF ((mJ σ 6) i.toNatClampNeg) ((mF σ 1) (((mJ σ 8) i.toNatClampNeg) - ((mJ σ 8) i.toNatClampNeg) / 4 * 4).toNatClampNeg) ((mF σ 1) (((mJ σ 9) i.toNatClampNeg) - ((mJ σ 9) i.toNatClampNeg) / 4 * 4).toNatClampNeg))]) rfl ?_
          refine lv_dstore (lv' := [(7, .double (ocF ((mJ σ 6) i.toNatClampNeg) ((mF σ 1) (((mJ σ 8) i.toNatClampNeg) - ((mJ σ 8) i.toNatClampNeg) / 4 * 4).toNatClampNeg) ((mF σ 1) (((mJ σ 9) i.toNatClampNeg) - ((mJ σ 9) i.toNatClampNeg) / 4 * 4).toNatClampNeg))), (5, .double ((mF σ 1) (((mJ σ 9) i.toNatClampNeg) - ((mJ σ 9) i.toNatClampNeg) / 4 * 4).toNatClampNeg)), (3, .double ((mF σ 1) (((mJ σ 8) i.toNatClampNeg) - ((mJ σ 8) i.toNatClampNeg) / 4 * 4).toNatClampNeg)), (2, .int ((mJ σ 6) i.toNatClampNeg)), (0, .ref (gad G 20)), (1, .int i)]) hx hb d_Mo_trouble_112 hl (by decide) rfl (fun ls hl => ?_)
          refine lv_dload hx hb d_Mo_trouble_114 (lv_at hl 0 rfl) ?_
          refine lv_ldc2d (v := 4741671816366391296) hx hb hown (k_703 hT) d_Mo_trouble_116 ?_
          refine lv_dcmp hx hb d_Mo_trouble_119 ?_
          refine lv_if_gt (tgt := 132) hx hb d_Mo_trouble_120 (by decide) (fun c120 => ?_) (fun c120 => ?_)
          · refine lv_iconst (v := 4) hx hb d_Mo_trouble_132 (by decide) ?_
            refine lv_goto (tgt := 137) hx hb d_Mo_trouble_133 (by decide) ?_
            exact mend_i (u := σ) hx hb hr hlocks hS hP d_Mo_trouble_137 (⟨by unfold trF tr2 tr3 adM mq; simp [ix, m4, ovF, lim9, lim9m, c15, c55, eq_true c92, c99, c120], rfl⟩)
          · refine lv_dload hx hb d_Mo_trouble_123 (lv_at hl 0 rfl) ?_
            refine lv_ldc2d (v := 13965043853221167104) hx hb hown (k_704 hT) d_Mo_trouble_125 ?_
            refine lv_dcmp hx hb d_Mo_trouble_128 ?_
            refine lv_if_ge (tgt := 136) hx hb d_Mo_trouble_129 (by decide) (fun c129 => ?_) (fun c129 => ?_)
            · refine lv_iconst (v := 0) hx hb d_Mo_trouble_136 (by decide) ?_
              exact mend_i (u := σ) hx hb hr hlocks hS hP d_Mo_trouble_137 (⟨by unfold trF tr2 tr3 adM mq; simp [ix, m4, ovF, lim9, lim9m, c15, c55, eq_true c92, c99, c120, c129], rfl⟩)
            · refine lv_iconst (v := 4) hx hb d_Mo_trouble_132 (by decide) ?_
              refine lv_goto (tgt := 137) hx hb d_Mo_trouble_133 (by decide) ?_
              exact mend_i (u := σ) hx hb hr hlocks hS hP d_Mo_trouble_137 (⟨by unfold trF tr2 tr3 adM mq; simp [ix, m4, ovF, lim9, lim9m, c15, c55, eq_true c92, c99, c120, c129], rfl⟩)
        · refine lv_iconst (v := 4) hx hb d_Mo_trouble_102 (by decide) ?_
          exact mend_i (u := σ) hx hb hr hlocks hS hP d_Mo_trouble_103 (⟨by unfold trF tr2 tr3 adM mq; simp [ix, m4, ovF, lim9, lim9m, c15, c55, eq_true c92, eq_true c99], rfl⟩)
    · have c55 := b2i0 c55
      refine lv_iconst (v := 0) hx hb d_Mo_trouble_58 (by decide) ?_
      exact mend_i (u := σ) hx hb hr hlocks hS hP d_Mo_trouble_59 (⟨by unfold trF tr2 tr3 adM mq; simp [ix, m4, ovF, lim9, lim9m, c15, c55], rfl⟩)
  · have c15 := b2i1 c15
    refine lv_aload_n hx hb d_Mo_trouble_18 rfl (lv_at hl 1 rfl) ?_
    refine va_get (D := gD G) (ci := 7) (v := .ref (gad G 26)) (C := R_Mo) (T := F_Mo) (N := 29) hx hb (wl_Mo hT) (fun _ h9 => h9) hown hK hP 0 rfl rfl 5 (by decide) (k_575 hT) (fun _ h9 => h9) rfl d_Mo_trouble_19 ?_
    refine lv_aload_n hx hb d_Mo_trouble_22 rfl (lv_at hl 1 rfl) ?_
    refine va_get (D := gD G) (ci := 7) (v := .ref (gad G 23)) (C := R_Mo) (T := F_Mo) (N := 29) hx hb (wl_Mo hT) (fun _ h9 => h9) hown hK hP 0 rfl rfl 2 (by decide) (k_572 hT) (fun _ h9 => h9) rfl d_Mo_trouble_23 ?_
    refine lv_iload_n hx hb d_Mo_trouble_26 rfl (lv_at hl 2 rfl) ?_
    refine va_iald (f := (mJ σ 8)) hx hb hK hP 3 0 rfl rfl (h) d_Mo_trouble_27 ?_
    refine va_iald (f := (mJ σ 0)) hx hb hK hP 6 0 rfl rfl (hq.2.2.1) d_Mo_trouble_28 ?_
    refine lv_aload_n hx hb d_Mo_trouble_29 rfl (lv_at hl 1 rfl) ?_
    refine va_get (D := gD G) (ci := 7) (v := .ref (gad G 25)) (C := R_Mo) (T := F_Mo) (N := 29) hx hb (wl_Mo hT) (fun _ h9 => h9) hown hK hP 0 rfl rfl 4 (by decide) (k_574 hT) (fun _ h9 => h9) rfl d_Mo_trouble_30 ?_
    refine lv_iload_n hx hb d_Mo_trouble_33 rfl (lv_at hl 2 rfl) ?_
    refine va_iald (f := (mJ σ 10)) hx hb hK hP 5 0 rfl rfl (h) d_Mo_trouble_34 ?_
    refine lv_iadd hx hb d_Mo_trouble_35 ?_
    refine lv_iconst (v := 0) hx hb d_Mo_trouble_36 (by decide) ?_
    refine lv_bipush (v := 47) hx hb d_Mo_trouble_37 (by decide) ?_
    refine cx_S (n := 3) (As := [.int (((mJ σ 0) ((mJ σ 8) i.toNatClampNeg).toNatClampNeg) + ((mJ σ 10) i.toNatClampNeg)), .int 0, .int 47]) (rest := []) ⟨hx, hb, hml, hown, fun _ h9 => nomatch h9⟩ (K_Mo_in g σ (((mJ σ 0) ((mJ σ 8) i.toNatClampNeg).toNatClampNeg) + ((mJ σ 10) i.toNatClampNeg)) 0 47 ) (k_666 hT) (k_667 hT) (k_668 hT) (k_9 hT) rfl (by decide +kernel) (hc.at g hS hP) ⟨by decide, by decide⟩ ⟨by decide, by decide⟩ hl.1 (Nat.le_of_ble_eq_true rfl) d_Mo_trouble_39 (fun _ h9 => h9) hS (fun _ _ _ _ _ _ _ h9 => h9.elim) (fun v t H locs ht9 hRt hz hk hS => ?_)
    obtain ⟨r, u, rfl, ⟨er, eu⟩, hP⟩ := hRt
    subst er
    rw [eu, ht9] at hP
    have hD : va_D (gA G) (mw G σ) := g.d
    refine W.eq (g2 := F0 m 42 ls [.int (b2i (inF (((mJ σ 0) ((mJ σ 8) i.toNatClampNeg).toNatClampNeg) + ((mJ σ 10) i.toNatClampNeg)) 0 47))]) rfl ?_
    refine lv_if_ne (tgt := 47) hx hb d_Mo_trouble_42 (by decide) (fun c42 => ?_) (fun c42 => ?_)
    · have c42 := b2i1 c42
      refine lv_iload_n hx hb d_Mo_trouble_47 rfl (lv_at hl 0 rfl) ?_
      refine lv_bipush (v := 10) hx hb d_Mo_trouble_48 (by decide) ?_
      refine lv_bipush (v := 13) hx hb d_Mo_trouble_50 (by decide) ?_
      refine cx_S (n := 3) (As := [.int ((mJ σ 6) i.toNatClampNeg), .int 10, .int 13]) (rest := []) ⟨hx, hb, hml, hown, fun _ h9 => nomatch h9⟩ (K_Mo_in g σ ((mJ σ 6) i.toNatClampNeg) 10 13 ) (k_666 hT) (k_667 hT) (k_668 hT) (k_9 hT) rfl (by decide +kernel) (hc.at g hS hP) ⟨by decide, by decide⟩ ⟨by decide, by decide⟩ hl.1 (Nat.le_of_ble_eq_true rfl) d_Mo_trouble_52 (fun _ h9 => h9) hS (fun _ _ _ _ _ _ _ h9 => h9.elim) (fun v t H locs ht9 hRt hz hk hS => ?_)
      obtain ⟨r, u, rfl, ⟨er, eu⟩, hP⟩ := hRt
      subst er
      rw [eu, ht9] at hP
      have hD : va_D (gA G) (mw G σ) := g.d
      refine W.eq (g2 := F0 m 55 ls [.int (b2i (inF ((mJ σ 6) i.toNatClampNeg) 10 13))]) rfl ?_
      refine lv_if_ne (tgt := 60) hx hb d_Mo_trouble_55 (by decide) (fun c55 => ?_) (fun c55 => ?_)
      · have c55 := b2i1 c55
        refine lv_aload_n hx hb d_Mo_trouble_60 rfl (lv_at hl 1 rfl) ?_
        refine va_get (D := gD G) (ci := 7) (v := .ref (gad G 32)) (C := R_Mo) (T := F_Mo) (N := 29) hx hb (wl_Mo hT) (fun _ h9 => h9) hown hK hP 0 rfl rfl 11 (by decide) (k_581 hT) (fun _ h9 => h9) rfl d_Mo_trouble_61 ?_
        refine lv_aload_n hx hb d_Mo_trouble_64 rfl (lv_at hl 1 rfl) ?_
        refine va_get (D := gD G) (ci := 7) (v := .ref (gad G 23)) (C := R_Mo) (T := F_Mo) (N := 29) hx hb (wl_Mo hT) (fun _ h9 => h9) hown hK hP 0 rfl rfl 2 (by decide) (k_572 hT) (fun _ h9 => h9) rfl d_Mo_trouble_65 ?_
        refine lv_iload_n hx hb d_Mo_trouble_68 rfl (lv_at hl 2 rfl) ?_
        refine va_iald (f := (mJ σ 8)) hx hb hK hP 3 0 rfl rfl (h) d_Mo_trouble_69 ?_
        refine lv_iconst (v := 4) hx hb d_Mo_trouble_70 (by decide) ?_
        refine lv_irem hx hb d_Mo_trouble_71 (by decide) ?_
        refine va_dald (f := (mF σ 1)) hx hb hK hP 12 1 rfl rfl (m4_in hq.2.2.1) d_Mo_trouble_72 ?_
        refine lv_dstore_n (lv' := [(3, .double ((mF σ 1) (((mJ σ 8) i.toNatClampNeg) - ((mJ σ 8) i.toNatClampNeg) / 4 * 4).toNatClampNeg)), (2, .int ((mJ σ 6) i.toNatClampNeg)), (0, .ref (gad G 20)), (1, .int i)]) hx hb d_Mo_trouble_73 rfl hl (by decide) rfl (fun ls hl => ?_)
        refine lv_aload_n hx hb d_Mo_trouble_74 rfl (lv_at hl 2 rfl) ?_
        refine va_get (D := gD G) (ci := 7) (v := .ref (gad G 32)) (C := R_Mo) (T := F_Mo) (N := 29) hx hb (wl_Mo hT) (fun _ h9 => h9) hown hK hP 0 rfl rfl 11 (by decide) (k_581 hT) (fun _ h9 => h9) rfl d_Mo_trouble_75 ?_
        refine lv_aload_n hx hb d_Mo_trouble_78 rfl (lv_at hl 2 rfl) ?_
        refine va_get (D := gD G) (ci := 7) (v := .ref (gad G 24)) (C := R_Mo) (T := F_Mo) (N := 29) hx hb (wl_Mo hT) (fun _ h9 => h9) hown hK hP 0 rfl rfl 3 (by decide) (k_573 hT) (fun _ h9 => h9) rfl d_Mo_trouble_79 ?_
        refine lv_iload_n hx hb d_Mo_trouble_82 rfl (lv_at hl 3 rfl) ?_
        refine va_iald (f := (mJ σ 9)) hx hb hK hP 4 0 rfl rfl (h) d_Mo_trouble_83 ?_
        refine lv_iconst (v := 4) hx hb d_Mo_trouble_84 (by decide) ?_
        refine lv_irem hx hb d_Mo_trouble_85 (by decide) ?_
        refine va_dald (f := (mF σ 1)) hx hb hK hP 12 1 rfl rfl (m4_in hq.2.2.2) d_Mo_trouble_86 ?_
        refine lv_dstore (lv' := [(5, .double ((mF σ 1) (((mJ σ 9) i.toNatClampNeg) - ((mJ σ 9) i.toNatClampNeg) / 4 * 4).toNatClampNeg)), (3, .double ((mF σ 1) (((mJ σ 8) i.toNatClampNeg) - ((mJ σ 8) i.toNatClampNeg) / 4 * 4).toNatClampNeg)), (2, .int ((mJ σ 6) i.toNatClampNeg)), (0, .ref (gad G 20)), (1, .int i)]) hx hb d_Mo_trouble_87 hl (by decide) rfl (fun ls hl => ?_)
        refine lv_iload_n hx hb d_Mo_trouble_89 rfl (lv_at hl 2 rfl) ?_
        refine lv_bipush (v := 13) hx hb d_Mo_trouble_90 (by decide) ?_
        refine lv_icmp_ne (tgt := 104) hx hb d_Mo_trouble_92 (by decide) (fun c92 => ?_) (fun c92 => ?_)
        · refine lv_aload_n hx hb d_Mo_trouble_104 rfl (lv_at hl 3 rfl) ?_
          refine lv_iload_n hx hb d_Mo_trouble_105 rfl (lv_at hl 2 rfl) ?_
          refine lv_dload_n hx hb d_Mo_trouble_106 rfl (lv_at hl 1 rfl) ?_
          refine lv_dload hx hb d_Mo_trouble_107 (lv_at hl 0 rfl) ?_
          refine cx_V (n := 3) (C := R_Mo) (As := [.int ((mJ σ 6) i.toNatClampNeg), .double ((mF σ 1) (((mJ σ 8) i.toNatClampNeg) - ((mJ σ 8) i.toNatClampNeg) / 4 * 4).toNatClampNeg), .double ((mF σ 1) (((mJ σ 9) i.toNatClampNeg) - ((mJ σ 9) i.toNatClampNeg) / 4 * 4).toNatClampNeg)]) (rest := []) ⟨hx, hb, hml, hown, fun _ h9 => nomatch h9⟩ (K_Mo_reckon g σ ((mJ σ 6) i.toNatClampNeg) ((mF σ 1) (((mJ σ 8) i.toNatClampNeg) - ((mJ σ 8) i.toNatClampNeg) / 4 * 4).toNatClampNeg) ((mF σ 1) (((mJ σ 9) i.toNatClampNeg) - ((mJ σ 9) i.toNatClampNeg) / 4 * 4).toNatClampNeg) (hf _ (vp_lt (m4_in hq.2.2.1))) (hf _ (vp_lt (m4_in hq.2.2.2))) (fun h1 h2 h3 => absurd ((((in1013 c55).resolve_left h1).resolve_left h2).resolve_left h3) c92)) (k_699 hT) (k_701 hT) (ks_23 hT) (k_702 hT) (k_9 hT) rfl (by decide +kernel) (va_recv hK hP (ci := 7) (q0 := 0) rfl rfl) (hc.at g hS hP) ⟨by decide, by decide⟩ ⟨by decide, by decide⟩ hl.1 (Nat.le_of_ble_eq_true rfl) d_Mo_trouble_109 (fun _ h9 => h9) hS (fun _ _ _ _ _ _ _ h9 => h9.elim) (fun v t H locs ht9 hRt hz hk hS => ?_)
          obtain ⟨r, u, rfl, ⟨er, eu⟩, hP⟩ := hRt
          subst er
          rw [eu, ht9] at hP
          have hD : va_D (gA G) (mw G σ) := g.d
          refine W.eq (g2 := F0 m 112 ls [.double (ocF ((mJ σ 6) i.toNatClampNeg) ((mF σ 1) (((mJ σ 8) i.toNatClampNeg) - ((mJ σ 8) i.toNatClampNeg) / 4 * 4).toNatClampNeg) ((mF σ 1) (((mJ σ 9) i.toNatClampNeg) - ((mJ σ 9) i.toNatClampNeg) / 4 * 4).toNatClampNeg))]) rfl ?_
          refine lv_dstore (lv' := [(7, .double (ocF ((mJ σ 6) i.toNatClampNeg) ((mF σ 1) (((mJ σ 8) i.toNatClampNeg) - ((mJ σ 8) i.toNatClampNeg) / 4 * 4).toNatClampNeg) ((mF σ 1) (((mJ σ 9) i.toNatClampNeg) - ((mJ σ 9) i.toNatClampNeg) / 4 * 4).toNatClampNeg))), (5, .double ((mF σ 1) (((mJ σ 9) i.toNatClampNeg) - ((mJ σ 9) i.toNatClampNeg) / 4 * 4).toNatClampNeg)), (3, .double ((mF σ 1) (((mJ σ 8) i.toNatClampNeg) - ((mJ σ 8) i.toNatClampNeg) / 4 * 4).toNatClampNeg)), (2, .int ((mJ σ 6) i.toNatClampNeg)), (0, .ref (gad G 20)), (1, .int i)]) hx hb d_Mo_trouble_112 hl (by decide) rfl (fun ls hl => ?_)
          refine lv_dload hx hb d_Mo_trouble_114 (lv_at hl 0 rfl) ?_
          refine lv_ldc2d (v := 4741671816366391296) hx hb hown (k_703 hT) d_Mo_trouble_116 ?_
          refine lv_dcmp hx hb d_Mo_trouble_119 ?_
          refine lv_if_gt (tgt := 132) hx hb d_Mo_trouble_120 (by decide) (fun c120 => ?_) (fun c120 => ?_)
          · refine lv_iconst (v := 4) hx hb d_Mo_trouble_132 (by decide) ?_
            refine lv_goto (tgt := 137) hx hb d_Mo_trouble_133 (by decide) ?_
            exact mend_i (u := σ) hx hb hr hlocks hS hP d_Mo_trouble_137 (⟨by unfold trF tr2 tr3 adM mq; simp [ix, m4, ovF, lim9, lim9m, c15, c42, c55, c92, c120], rfl⟩)
          · refine lv_dload hx hb d_Mo_trouble_123 (lv_at hl 0 rfl) ?_
            refine lv_ldc2d (v := 13965043853221167104) hx hb hown (k_704 hT) d_Mo_trouble_125 ?_
            refine lv_dcmp hx hb d_Mo_trouble_128 ?_
            refine lv_if_ge (tgt := 136) hx hb d_Mo_trouble_129 (by decide) (fun c129 => ?_) (fun c129 => ?_)
            · refine lv_iconst (v := 0) hx hb d_Mo_trouble_136 (by decide) ?_
              exact mend_i (u := σ) hx hb hr hlocks hS hP d_Mo_trouble_137 (⟨by unfold trF tr2 tr3 adM mq; simp [ix, m4, ovF, lim9, lim9m, c15, c42, c55, c92, c120, c129], rfl⟩)
            · refine lv_iconst (v := 4) hx hb d_Mo_trouble_132 (by decide) ?_
              refine lv_goto (tgt := 137) hx hb d_Mo_trouble_133 (by decide) ?_
              exact mend_i (u := σ) hx hb hr hlocks hS hP d_Mo_trouble_137 (⟨by unfold trF tr2 tr3 adM mq; simp [ix, m4, ovF, lim9, lim9m, c15, c42, c55, c92, c120, c129], rfl⟩)
        · refine lv_dload hx hb d_Mo_trouble_95 (lv_at hl 0 rfl) ?_
          refine lv_dconst0 hx hb d_Mo_trouble_97 ?_
          refine lv_dcmp hx hb d_Mo_trouble_98 ?_
          refine lv_if_ne (tgt := 104) hx hb d_Mo_trouble_99 (by decide) (fun c99 => ?_) (fun c99 => ?_)
          · refine lv_aload_n hx hb d_Mo_trouble_104 rfl (lv_at hl 3 rfl) ?_
            refine lv_iload_n hx hb d_Mo_trouble_105 rfl (lv_at hl 2 rfl) ?_
            refine lv_dload_n hx hb d_Mo_trouble_106 rfl (lv_at hl 1 rfl) ?_
            refine lv_dload hx hb d_Mo_trouble_107 (lv_at hl 0 rfl) ?_
            refine cx_V (n := 3) (C := R_Mo) (As := [.int ((mJ σ 6) i.toNatClampNeg), .double ((mF σ 1) (((mJ σ 8) i.toNatClampNeg) - ((mJ σ 8) i.toNatClampNeg) / 4 * 4).toNatClampNeg), .double ((mF σ 1) (((mJ σ 9) i.toNatClampNeg) - ((mJ σ 9) i.toNatClampNeg) / 4 * 4).toNatClampNeg)]) (rest := []) ⟨hx, hb, hml, hown, fun _ h9 => nomatch h9⟩ (K_Mo_reckon g σ ((mJ σ 6) i.toNatClampNeg) ((mF σ 1) (((mJ σ 8) i.toNatClampNeg) - ((mJ σ 8) i.toNatClampNeg) / 4 * 4).toNatClampNeg) ((mF σ 1) (((mJ σ 9) i.toNatClampNeg) - ((mJ σ 9) i.toNatClampNeg) / 4 * 4).toNatClampNeg) (hf _ (vp_lt (m4_in hq.2.2.1))) (hf _ (vp_lt (m4_in hq.2.2.2))) (fun _ _ _ => c99)) (k_699 hT) (k_701 hT) (ks_23 hT) (k_702 hT) (k_9 hT) rfl (by decide +kernel) (va_recv hK hP (ci := 7) (q0 := 0) rfl rfl) (hc.at g hS hP) ⟨by decide, by decide⟩ ⟨by decide, by decide⟩ hl.1 (Nat.le_of_ble_eq_true rfl) d_Mo_trouble_109 (fun _ h9 => h9) hS (fun _ _ _ _ _ _ _ h9 => h9.elim) (fun v t H locs ht9 hRt hz hk hS => ?_)
            obtain ⟨r, u, rfl, ⟨er, eu⟩, hP⟩ := hRt
            subst er
            rw [eu, ht9] at hP
            have hD : va_D (gA G) (mw G σ) := g.d
            refine W.eq (g2 := F0 m 112 ls [.double (ocF ((mJ σ 6) i.toNatClampNeg) ((mF σ 1) (((mJ σ 8) i.toNatClampNeg) - ((mJ σ 8) i.toNatClampNeg) / 4 * 4).toNatClampNeg) ((mF σ 1) (((mJ σ 9) i.toNatClampNeg) - ((mJ σ 9) i.toNatClampNeg) / 4 * 4).toNatClampNeg))]) rfl ?_
            refine lv_dstore (lv' := [(7, .double (ocF ((mJ σ 6) i.toNatClampNeg) ((mF σ 1) (((mJ σ 8) i.toNatClampNeg) - ((mJ σ 8) i.toNatClampNeg) / 4 * 4).toNatClampNeg) ((mF σ 1) (((mJ σ 9) i.toNatClampNeg) - ((mJ σ 9) i.toNatClampNeg) / 4 * 4).toNatClampNeg))), (5, .double ((mF σ 1) (((mJ σ 9) i.toNatClampNeg) - ((mJ σ 9) i.toNatClampNeg) / 4 * 4).toNatClampNeg)), (3, .double ((mF σ 1) (((mJ σ 8) i.toNatClampNeg) - ((mJ σ 8) i.toNatClampNeg) / 4 * 4).toNatClampNeg)), (2, .int ((mJ σ 6) i.toNatClampNeg)), (0, .ref (gad G 20)), (1, .int i)]) hx hb d_Mo_trouble_112 hl (by decide) rfl (fun ls hl => ?_)
            refine lv_dload hx hb d_Mo_trouble_114 (lv_at hl 0 rfl) ?_
            refine lv_ldc2d (v := 4741671816366391296) hx hb hown (k_703 hT) d_Mo_trouble_116 ?_
            refine lv_dcmp hx hb d_Mo_trouble_119 ?_
            refine lv_if_gt (tgt := 132) hx hb d_Mo_trouble_120 (by decide) (fun c120 => ?_) (fun c120 => ?_)
            · refine lv_iconst (v := 4) hx hb d_Mo_trouble_132 (by decide) ?_
              refine lv_goto (tgt := 137) hx hb d_Mo_trouble_133 (by decide) ?_
              exact mend_i (u := σ) hx hb hr hlocks hS hP d_Mo_trouble_137 (⟨by unfold trF tr2 tr3 adM mq; simp [ix, m4, ovF, lim9, lim9m, c15, c42, c55, eq_true c92, c99, c120], rfl⟩)
            · refine lv_dload hx hb d_Mo_trouble_123 (lv_at hl 0 rfl) ?_
              refine lv_ldc2d (v := 13965043853221167104) hx hb hown (k_704 hT) d_Mo_trouble_125 ?_
              refine lv_dcmp hx hb d_Mo_trouble_128 ?_
              refine lv_if_ge (tgt := 136) hx hb d_Mo_trouble_129 (by decide) (fun c129 => ?_) (fun c129 => ?_)
              · refine lv_iconst (v := 0) hx hb d_Mo_trouble_136 (by decide) ?_
                exact mend_i (u := σ) hx hb hr hlocks hS hP d_Mo_trouble_137 (⟨by unfold trF tr2 tr3 adM mq; simp [ix, m4, ovF, lim9, lim9m, c15, c42, c55, eq_true c92, c99, c120, c129], rfl⟩)
              · refine lv_iconst (v := 4) hx hb d_Mo_trouble_132 (by decide) ?_
                refine lv_goto (tgt := 137) hx hb d_Mo_trouble_133 (by decide) ?_
                exact mend_i (u := σ) hx hb hr hlocks hS hP d_Mo_trouble_137 (⟨by unfold trF tr2 tr3 adM mq; simp [ix, m4, ovF, lim9, lim9m, c15, c42, c55, eq_true c92, c99, c120, c129], rfl⟩)
          · refine lv_iconst (v := 4) hx hb d_Mo_trouble_102 (by decide) ?_
            exact mend_i (u := σ) hx hb hr hlocks hS hP d_Mo_trouble_103 (⟨by unfold trF tr2 tr3 adM mq; simp [ix, m4, ovF, lim9, lim9m, c15, c42, c55, eq_true c92, eq_true c99], rfl⟩)
      · have c55 := b2i0 c55
        refine lv_iconst (v := 0) hx hb d_Mo_trouble_58 (by decide) ?_
        exact mend_i (u := σ) hx hb hr hlocks hS hP d_Mo_trouble_59 (⟨by unfold trF tr2 tr3 adM mq; simp [ix, m4, ovF, lim9, lim9m, c15, c42, c55], rfl⟩)
    · have c42 := b2i0 c42
      refine lv_iconst (v := 3) hx hb d_Mo_trouble_45 (by decide) ?_
      exact mend_i (u := σ) hx hb hr hlocks hS hP d_Mo_trouble_46 (⟨by unfold trF tr2 tr3 adM mq; simp [ix, m4, ovF, lim9, lim9m, c15, c42], rfl⟩)

set_option maxHeartbeats 4000000 in
set_option maxRecDepth 100000 in
theorem K_Mo_missLine {l : Launch} {G : GT} (g : MOK l G) (σ : MS) (ad : Int32) (h : vp_in ad 48) : cx_M l y_Mo_missLine (.code y_Mo_missLine b_Mo_missLine 5 (some .boolean)) 0 0 (gA G) [.ref (gad G 20), .int ad] (Mw G σ) (Mi G (fun r u => r = b2i (mlF σ ad).1 ∧ u = (mlF σ ad).2)) (Tn) := by
  refine cx_of (by decide +kernel) ?_
  intro p e s m below meth c s₁ B hml ht hc
  have hx := B.exec
  have hb := B.bytes
  have hr := B.returns
  have hown : s.vm.findClass R_Mo = some m.cls := findClass_of_methodNamed B.named
  have hlocks := B.notSynchronized
  have hT := g.tb hc
  have hK := g.k hc
  have hD := g.d (τ := σ)
  have hS : va_S (gA G) s.heap s.heap [] := va_S.rf
  have hP := hc.2.2
  have hl := lv_entry ([.ref (gad G 20), .int ad]) (n := 5) (Nat.le_of_ble_eq_true rfl)
  rw [lg_entry_eq]
  generalize (lg_sl ([.ref (gad G 20), .int ad]) ++ List.replicate (5 - (lg_sl ([.ref (gad G 20), .int ad])).length) Slot.unset).toArray = ls at hl ⊢
  have hl : lv_has ls 5 [(0, .ref (gad G 20)), (1, .int ad)] := hl
  refine lv_iload_n hx hb d_Mo_missLine_0 rfl (lv_at hl 1 rfl) ?_
  refine lv_iconst (v := 4) hx hb d_Mo_missLine_1 (by decide) ?_
  refine lv_idiv hx hb d_Mo_missLine_2 (by decide) ?_
  refine lv_istore_n (lv' := [(2, .int (ad / 4)), (0, .ref (gad G 20)), (1, .int ad)]) hx hb d_Mo_missLine_3 rfl hl (by decide) rfl (fun ls hl => ?_)
  refine lv_iload_n hx hb d_Mo_missLine_4 rfl (lv_at hl 0 rfl) ?_
  refine lv_iconst (v := 2) hx hb d_Mo_missLine_5 (by decide) ?_
  refine lv_irem hx hb d_Mo_missLine_6 (by decide) ?_
  refine lv_iconst (v := 2) hx hb d_Mo_missLine_7 (by decide) ?_
  refine lv_imul hx hb d_Mo_missLine_8 ?_
  refine lv_istore_n (lv' := [(3, .int (((ad / 4) - (ad / 4) / 2 * 2) * 2)), (2, .int (ad / 4)), (0, .ref (gad G 20)), (1, .int ad)]) hx hb d_Mo_missLine_9 rfl hl (by decide) rfl (fun ls hl => ?_)
  refine lv_aload_n hx hb d_Mo_missLine_10 rfl (lv_at hl 2 rfl) ?_
  refine lv_dup hx hb d_Mo_missLine_11 rfl ?_
  refine va_get (D := gD G) (ci := 7) (v := .int (mI σ 9)) (C := R_Mo) (T := F_Mo) (N := 29) hx hb (wl_Mo hT) (fun _ h9 => h9) hown hK hP 0 rfl rfl 25 (by decide) (k_595 hT) (fun _ h9 => h9) rfl d_Mo_missLine_12 ?_
  refine lv_iconst (v := 1) hx hb d_Mo_missLine_15 (by decide) ?_
  refine lv_iadd hx hb d_Mo_missLine_16 ?_
  refine va_put (D := gD G) (ci := 7) (v := .int ((mI σ 9) + 1)) (ty := .int) (C := R_Mo) (T := F_Mo) (N := 29) hx hb (wl_Mo hT) (fun _ h9 => h9) fy_Mo fy_Mo_ok fn_Mo hown hK hP hD hS 0 rfl rfl 25 (by decide) (k_595 hT) (fun _ h9 => h9) rfl (by decide +kernel) rfl rfl (Nat.le_of_ble_eq_true rfl) d_Mo_missLine_17 (fun H locs hP hD hS => ?_)
  have hP : va_P (gD G) classes (mw G (tI σ 9 ((mI σ 9) + 1))) H := hP
  have hD : va_D (gA G) (mw G (tI σ 9 ((mI σ 9) + 1))) := g.d
  refine lv_iload_n hx hb d_Mo_missLine_20 rfl (lv_at hl 0 rfl) ?_
  refine lv_istore (lv' := [(4, .int (((ad / 4) - (ad / 4) / 2 * 2) * 2)), (3, .int (((ad / 4) - (ad / 4) / 2 * 2) * 2)), (2, .int (ad / 4)), (0, .ref (gad G 20)), (1, .int ad)]) hx hb d_Mo_missLine_21 hl (by decide) rfl (fun ls hl => ?_)
  refine lv_iload hx hb d_Mo_missLine_23 (lv_at hl 0 rfl) ?_
  refine lv_iload_n hx hb d_Mo_missLine_25 rfl (lv_at hl 1 rfl) ?_
  refine lv_iconst (v := 2) hx hb d_Mo_missLine_26 (by decide) ?_
  refine lv_iadd hx hb d_Mo_missLine_27 ?_
  refine lv_icmp_ge (tgt := 64) hx hb d_Mo_missLine_28 (by decide) (fun c28 => ?_) (fun c28 => ?_)
  · exact absurd c28 (ls3 h).1
  · refine lv_aload_n hx hb d_Mo_missLine_31 rfl (lv_at hl 3 rfl) ?_
    refine va_get (D := gD G) (ci := 7) (v := .ref (gad G 29)) (C := R_Mo) (T := F_Mo) (N := 29) hx hb (wl_Mo hT) (fun _ h9 => h9) hown hK hP 0 rfl rfl 8 (by decide) (k_578 hT) (fun _ h9 => h9) rfl d_Mo_missLine_32 ?_
    refine lv_iload hx hb d_Mo_missLine_35 (lv_at hl 0 rfl) ?_
    refine va_iald (f := (mJ σ 3)) hx hb hK hP 9 0 rfl rfl (ls1 h) d_Mo_missLine_37 ?_
    refine lv_iload_n hx hb d_Mo_missLine_38 rfl (lv_at hl 2 rfl) ?_
    refine lv_icmp_eq (tgt := 45) hx hb d_Mo_missLine_39 (by decide) (fun c39 => ?_) (fun c39 => ?_)
    · refine lv_aload_n hx hb d_Mo_missLine_45 rfl (lv_at hl 3 rfl) ?_
      refine va_get (D := gD G) (ci := 7) (v := .ref (gad G 30)) (C := R_Mo) (T := F_Mo) (N := 29) hx hb (wl_Mo hT) (fun _ h9 => h9) hown hK hP 0 rfl rfl 9 (by decide) (k_579 hT) (fun _ h9 => h9) rfl d_Mo_missLine_46 ?_
      refine lv_iload hx hb d_Mo_missLine_49 (lv_at hl 0 rfl) ?_
      refine lv_aload_n hx hb d_Mo_missLine_51 rfl (lv_at hl 3 rfl) ?_
      refine va_get (D := gD G) (ci := 7) (v := .int ((mI σ 9) + 1)) (C := R_Mo) (T := F_Mo) (N := 29) hx hb (wl_Mo hT) (fun _ h9 => h9) hown hK hP 0 rfl rfl 25 (by decide) (k_595 hT) (fun _ h9 => h9) rfl d_Mo_missLine_52 ?_
      refine va_iast (f := (mJ σ 4)) hx hb hK hP hD hS 10 0 rfl rfl (ls1 h) d_Mo_missLine_55 (fun H locs hP hD hS => ?_)
      have hP : va_P (gD G) classes (mw G (tJ (tI σ 9 ((mI σ 9) + 1)) 4 (upd (mJ σ 4) (((ad / 4) - (ad / 4) / 2 * 2) * 2).toNatClampNeg ((mI σ 9) + 1)))) H := hP
      have hD : va_D (gA G) (mw G (tJ (tI σ 9 ((mI σ 9) + 1)) 4 (upd (mJ σ 4) (((ad / 4) - (ad / 4) / 2 * 2) * 2).toNatClampNeg ((mI σ 9) + 1)))) := g.d
      refine lv_iconst (v := 0) hx hb d_Mo_missLine_56 (by decide) ?_
      exact mend_z (u := (tJ (tI σ 9 ((mI σ 9) + 1)) 4 (upd (mJ σ 4) (((ad / 4) - (ad / 4) / 2 * 2) * 2).toNatClampNeg ((mI σ 9) + 1)))) hx hb hr hlocks hS hP d_Mo_missLine_57 rfl (⟨by unfold mlF ml1 ml2; simp only [mJ_tI, mI_tI, ix]; rw [if_pos c39]; rfl, by unfold mlF ml1 ml2; simp only [mJ_tI, mI_tI, ix]; rw [if_pos c39]; rfl⟩)
    · refine lv_goto (tgt := 58) hx hb d_Mo_missLine_42 (by decide) ?_
      refine lv_iinc (v := ((((ad / 4) - (ad / 4) / 2 * 2) * 2) + 1)) (lv' := [(4, .int ((((ad / 4) - (ad / 4) / 2 * 2) * 2) + 1)), (3, .int (((ad / 4) - (ad / 4) / 2 * 2) * 2)), (2, .int (ad / 4)), (0, .ref (gad G 20)), (1, .int ad)]) hx hb d_Mo_missLine_58 hl (k := 0) rfl rfl (by decide) rfl (fun ls hl => ?_)
      refine lv_goto (tgt := 23) hx hb d_Mo_missLine_61 (by decide) ?_
      refine lv_iload hx hb d_Mo_missLine_23 (lv_at hl 0 rfl) ?_
      refine lv_iload_n hx hb d_Mo_missLine_25 rfl (lv_at hl 1 rfl) ?_
      refine lv_iconst (v := 2) hx hb d_Mo_missLine_26 (by decide) ?_
      refine lv_iadd hx hb d_Mo_missLine_27 ?_
      refine lv_icmp_ge (tgt := 64) hx hb d_Mo_missLine_28 (by decide) (fun c28 => ?_) (fun c28 => ?_)
      · exact absurd c28 (ls3 h).2.1
      · refine lv_aload_n hx hb d_Mo_missLine_31 rfl (lv_at hl 3 rfl) ?_
        refine va_get (D := gD G) (ci := 7) (v := .ref (gad G 29)) (C := R_Mo) (T := F_Mo) (N := 29) hx hb (wl_Mo hT) (fun _ h9 => h9) hown hK hP 0 rfl rfl 8 (by decide) (k_578 hT) (fun _ h9 => h9) rfl d_Mo_missLine_32 ?_
        refine lv_iload hx hb d_Mo_missLine_35 (lv_at hl 0 rfl) ?_
        refine va_iald (f := (mJ σ 3)) hx hb hK hP 9 0 rfl rfl (ls2 h) d_Mo_missLine_37 ?_
        refine lv_iload_n hx hb d_Mo_missLine_38 rfl (lv_at hl 2 rfl) ?_
        refine lv_icmp_eq (tgt := 45) hx hb d_Mo_missLine_39 (by decide) (fun c39' => ?_) (fun c39' => ?_)
        · refine lv_aload_n hx hb d_Mo_missLine_45 rfl (lv_at hl 3 rfl) ?_
          refine va_get (D := gD G) (ci := 7) (v := .ref (gad G 30)) (C := R_Mo) (T := F_Mo) (N := 29) hx hb (wl_Mo hT) (fun _ h9 => h9) hown hK hP 0 rfl rfl 9 (by decide) (k_579 hT) (fun _ h9 => h9) rfl d_Mo_missLine_46 ?_
          refine lv_iload hx hb d_Mo_missLine_49 (lv_at hl 0 rfl) ?_
          refine lv_aload_n hx hb d_Mo_missLine_51 rfl (lv_at hl 3 rfl) ?_
          refine va_get (D := gD G) (ci := 7) (v := .int ((mI σ 9) + 1)) (C := R_Mo) (T := F_Mo) (N := 29) hx hb (wl_Mo hT) (fun _ h9 => h9) hown hK hP 0 rfl rfl 25 (by decide) (k_595 hT) (fun _ h9 => h9) rfl d_Mo_missLine_52 ?_
          refine va_iast (f := (mJ σ 4)) hx hb hK hP hD hS 10 0 rfl rfl (ls2 h) d_Mo_missLine_55 (fun H locs hP hD hS => ?_)
          have hP : va_P (gD G) classes (mw G (tJ (tI σ 9 ((mI σ 9) + 1)) 4 (upd (mJ σ 4) ((((ad / 4) - (ad / 4) / 2 * 2) * 2) + 1).toNatClampNeg ((mI σ 9) + 1)))) H := hP
          have hD : va_D (gA G) (mw G (tJ (tI σ 9 ((mI σ 9) + 1)) 4 (upd (mJ σ 4) ((((ad / 4) - (ad / 4) / 2 * 2) * 2) + 1).toNatClampNeg ((mI σ 9) + 1)))) := g.d
          refine lv_iconst (v := 0) hx hb d_Mo_missLine_56 (by decide) ?_
          exact mend_z (u := (tJ (tI σ 9 ((mI σ 9) + 1)) 4 (upd (mJ σ 4) ((((ad / 4) - (ad / 4) / 2 * 2) * 2) + 1).toNatClampNeg ((mI σ 9) + 1)))) hx hb hr hlocks hS hP d_Mo_missLine_57 rfl (⟨by unfold mlF ml1 ml2; simp only [mJ_tI, mI_tI, ix]; rw [if_neg c39, if_pos c39']; rfl, by unfold mlF ml1 ml2; simp only [mJ_tI, mI_tI, ix]; rw [if_neg c39, if_pos c39']; rfl⟩)
        · refine lv_goto (tgt := 58) hx hb d_Mo_missLine_42 (by decide) ?_
          refine lv_iinc (v := (((((ad / 4) - (ad / 4) / 2 * 2) * 2) + 1) + 1)) (lv' := [(4, .int (((((ad / 4) - (ad / 4) / 2 * 2) * 2) + 1) + 1)), (3, .int (((ad / 4) - (ad / 4) / 2 * 2) * 2)), (2, .int (ad / 4)), (0, .ref (gad G 20)), (1, .int ad)]) hx hb d_Mo_missLine_58 hl (k := 0) rfl rfl (by decide) rfl (fun ls hl => ?_)
          refine lv_goto (tgt := 23) hx hb d_Mo_missLine_61 (by decide) ?_
          refine lv_iload hx hb d_Mo_missLine_23 (lv_at hl 0 rfl) ?_
          refine lv_iload_n hx hb d_Mo_missLine_25 rfl (lv_at hl 1 rfl) ?_
          refine lv_iconst (v := 2) hx hb d_Mo_missLine_26 (by decide) ?_
          refine lv_iadd hx hb d_Mo_missLine_27 ?_
          refine lv_icmp_ge (tgt := 64) hx hb d_Mo_missLine_28 (by decide) (fun c28 => ?_) (fun c28 => ?_)
          · refine lv_aload_n hx hb d_Mo_missLine_64 rfl (lv_at hl 3 rfl) ?_
            refine va_get (D := gD G) (ci := 7) (v := .ref (gad G 29)) (C := R_Mo) (T := F_Mo) (N := 29) hx hb (wl_Mo hT) (fun _ h9 => h9) hown hK hP 0 rfl rfl 8 (by decide) (k_578 hT) (fun _ h9 => h9) rfl d_Mo_missLine_65 ?_
            refine lv_iload_n hx hb d_Mo_missLine_68 rfl (lv_at hl 1 rfl) ?_
            refine va_iald (f := (mJ σ 3)) hx hb hK hP 9 0 rfl rfl (ls1 h) d_Mo_missLine_69 ?_
            refine lv_if_lt (tgt := 101) hx hb d_Mo_missLine_70 (by decide) (fun c70 => ?_) (fun c70 => ?_)
            · refine lv_iload_n hx hb d_Mo_missLine_101 rfl (lv_at hl 1 rfl) ?_
              refine lv_goto (tgt := 108) hx hb d_Mo_missLine_102 (by decide) ?_
              refine lv_istore (lv' := [(4, .int (((ad / 4) - (ad / 4) / 2 * 2) * 2)), (3, .int (((ad / 4) - (ad / 4) / 2 * 2) * 2)), (2, .int (ad / 4)), (0, .ref (gad G 20)), (1, .int ad)]) hx hb d_Mo_missLine_108 hl (by decide) rfl (fun ls hl => ?_)
              refine lv_aload_n hx hb d_Mo_missLine_110 rfl (lv_at hl 3 rfl) ?_
              refine va_get (D := gD G) (ci := 7) (v := .ref (gad G 29)) (C := R_Mo) (T := F_Mo) (N := 29) hx hb (wl_Mo hT) (fun _ h9 => h9) hown hK hP 0 rfl rfl 8 (by decide) (k_578 hT) (fun _ h9 => h9) rfl d_Mo_missLine_111 ?_
              refine lv_iload hx hb d_Mo_missLine_114 (lv_at hl 0 rfl) ?_
              refine lv_iload_n hx hb d_Mo_missLine_116 rfl (lv_at hl 2 rfl) ?_
              refine va_iast (f := (mJ σ 3)) hx hb hK hP hD hS 9 0 rfl rfl (ls1 h) d_Mo_missLine_117 (fun H locs hP hD hS => ?_)
              have hP : va_P (gD G) classes (mw G (tJ (tI σ 9 ((mI σ 9) + 1)) 3 (upd (mJ σ 3) (((ad / 4) - (ad / 4) / 2 * 2) * 2).toNatClampNeg (ad / 4)))) H := hP
              have hD : va_D (gA G) (mw G (tJ (tI σ 9 ((mI σ 9) + 1)) 3 (upd (mJ σ 3) (((ad / 4) - (ad / 4) / 2 * 2) * 2).toNatClampNeg (ad / 4)))) := g.d
              refine lv_aload_n hx hb d_Mo_missLine_118 rfl (lv_at hl 3 rfl) ?_
              refine va_get (D := gD G) (ci := 7) (v := .ref (gad G 30)) (C := R_Mo) (T := F_Mo) (N := 29) hx hb (wl_Mo hT) (fun _ h9 => h9) hown hK hP 0 rfl rfl 9 (by decide) (k_579 hT) (fun _ h9 => h9) rfl d_Mo_missLine_119 ?_
              refine lv_iload hx hb d_Mo_missLine_122 (lv_at hl 0 rfl) ?_
              refine lv_aload_n hx hb d_Mo_missLine_124 rfl (lv_at hl 3 rfl) ?_
              refine va_get (D := gD G) (ci := 7) (v := .int ((mI σ 9) + 1)) (C := R_Mo) (T := F_Mo) (N := 29) hx hb (wl_Mo hT) (fun _ h9 => h9) hown hK hP 0 rfl rfl 25 (by decide) (k_595 hT) (fun _ h9 => h9) rfl d_Mo_missLine_125 ?_
              refine va_iast (f := (mJ σ 4)) hx hb hK hP hD hS 10 0 rfl rfl (ls1 h) d_Mo_missLine_128 (fun H locs hP hD hS => ?_)
              have hP : va_P (gD G) classes (mw G (tJ (tJ (tI σ 9 ((mI σ 9) + 1)) 3 (upd (mJ σ 3) (((ad / 4) - (ad / 4) / 2 * 2) * 2).toNatClampNeg (ad / 4))) 4 (upd (mJ σ 4) (((ad / 4) - (ad / 4) / 2 * 2) * 2).toNatClampNeg ((mI σ 9) + 1)))) H := hP
              have hD : va_D (gA G) (mw G (tJ (tJ (tI σ 9 ((mI σ 9) + 1)) 3 (upd (mJ σ 3) (((ad / 4) - (ad / 4) / 2 * 2) * 2).toNatClampNeg (ad / 4))) 4 (upd (mJ σ 4) (((ad / 4) - (ad / 4) / 2 * 2) * 2).toNatClampNeg ((mI σ 9) + 1)))) := g.d
              refine lv_aload_n hx hb d_Mo_missLine_129 rfl (lv_at hl 3 rfl) ?_
              refine lv_dup hx hb d_Mo_missLine_130 rfl ?_
              refine va_get (D := gD G) (ci := 7) (v := .int (mI σ 8)) (C := R_Mo) (T := F_Mo) (N := 29) hx hb (wl_Mo hT) (fun _ h9 => h9) hown hK hP 0 rfl rfl 21 (by decide) (k_591 hT) (fun _ h9 => h9) rfl d_Mo_missLine_131 ?_
              refine lv_iconst (v := 1) hx hb d_Mo_missLine_134 (by decide) ?_
              refine lv_iadd hx hb d_Mo_missLine_135 ?_
              refine va_put (D := gD G) (ci := 7) (v := .int ((mI σ 8) + 1)) (ty := .int) (C := R_Mo) (T := F_Mo) (N := 29) hx hb (wl_Mo hT) (fun _ h9 => h9) fy_Mo fy_Mo_ok fn_Mo hown hK hP hD hS 0 rfl rfl 21 (by decide) (k_591 hT) (fun _ h9 => h9) rfl (by decide +kernel) rfl rfl (Nat.le_of_ble_eq_true rfl) d_Mo_missLine_136 (fun H locs hP hD hS => ?_)
              have hP : va_P (gD G) classes (mw G (tI (tJ (tJ (tI σ 9 ((mI σ 9) + 1)) 3 (upd (mJ σ 3) (((ad / 4) - (ad / 4) / 2 * 2) * 2).toNatClampNeg (ad / 4))) 4 (upd (mJ σ 4) (((ad / 4) - (ad / 4) / 2 * 2) * 2).toNatClampNeg ((mI σ 9) + 1))) 8 ((mI σ 8) + 1))) H := hP
              have hD : va_D (gA G) (mw G (tI (tJ (tJ (tI σ 9 ((mI σ 9) + 1)) 3 (upd (mJ σ 3) (((ad / 4) - (ad / 4) / 2 * 2) * 2).toNatClampNeg (ad / 4))) 4 (upd (mJ σ 4) (((ad / 4) - (ad / 4) / 2 * 2) * 2).toNatClampNeg ((mI σ 9) + 1))) 8 ((mI σ 8) + 1))) := g.d
              refine lv_iconst (v := 1) hx hb d_Mo_missLine_139 (by decide) ?_
              exact mend_z (u := (tI (tJ (tJ (tI σ 9 ((mI σ 9) + 1)) 3 (upd (mJ σ 3) (((ad / 4) - (ad / 4) / 2 * 2) * 2).toNatClampNeg (ad / 4))) 4 (upd (mJ σ 4) (((ad / 4) - (ad / 4) / 2 * 2) * 2).toNatClampNeg ((mI σ 9) + 1))) 8 ((mI σ 8) + 1))) hx hb hr hlocks hS hP d_Mo_missLine_140 rfl (⟨by unfold mlF ml1 ml2; simp only [mJ_tI, mI_tI, ix]; rw [if_neg c39, if_neg c39', if_pos c70]; rfl, by unfold mlF ml1 ml2; simp only [mJ_tI, mI_tI, ix]; rw [if_neg c39, if_neg c39', if_pos c70]; rfl⟩)
            · refine lv_aload_n hx hb d_Mo_missLine_73 rfl (lv_at hl 3 rfl) ?_
              refine va_get (D := gD G) (ci := 7) (v := .ref (gad G 29)) (C := R_Mo) (T := F_Mo) (N := 29) hx hb (wl_Mo hT) (fun _ h9 => h9) hown hK hP 0 rfl rfl 8 (by decide) (k_578 hT) (fun _ h9 => h9) rfl d_Mo_missLine_74 ?_
              refine lv_iload_n hx hb d_Mo_missLine_77 rfl (lv_at hl 1 rfl) ?_
              refine lv_iconst (v := 1) hx hb d_Mo_missLine_78 (by decide) ?_
              refine lv_iadd hx hb d_Mo_missLine_79 ?_
              refine va_iald (f := (mJ σ 3)) hx hb hK hP 9 0 rfl rfl (ls2 h) d_Mo_missLine_80 ?_
              refine lv_if_lt (tgt := 105) hx hb d_Mo_missLine_81 (by decide) (fun c81 => ?_) (fun c81 => ?_)
              · refine lv_iload_n hx hb d_Mo_missLine_105 rfl (lv_at hl 1 rfl) ?_
                refine lv_iconst (v := 1) hx hb d_Mo_missLine_106 (by decide) ?_
                refine lv_iadd hx hb d_Mo_missLine_107 ?_
                refine lv_istore (lv' := [(4, .int ((((ad / 4) - (ad / 4) / 2 * 2) * 2) + 1)), (3, .int (((ad / 4) - (ad / 4) / 2 * 2) * 2)), (2, .int (ad / 4)), (0, .ref (gad G 20)), (1, .int ad)]) hx hb d_Mo_missLine_108 hl (by decide) rfl (fun ls hl => ?_)
                refine lv_aload_n hx hb d_Mo_missLine_110 rfl (lv_at hl 3 rfl) ?_
                refine va_get (D := gD G) (ci := 7) (v := .ref (gad G 29)) (C := R_Mo) (T := F_Mo) (N := 29) hx hb (wl_Mo hT) (fun _ h9 => h9) hown hK hP 0 rfl rfl 8 (by decide) (k_578 hT) (fun _ h9 => h9) rfl d_Mo_missLine_111 ?_
                refine lv_iload hx hb d_Mo_missLine_114 (lv_at hl 0 rfl) ?_
                refine lv_iload_n hx hb d_Mo_missLine_116 rfl (lv_at hl 2 rfl) ?_
                refine va_iast (f := (mJ σ 3)) hx hb hK hP hD hS 9 0 rfl rfl (ls2 h) d_Mo_missLine_117 (fun H locs hP hD hS => ?_)
                have hP : va_P (gD G) classes (mw G (tJ (tI σ 9 ((mI σ 9) + 1)) 3 (upd (mJ σ 3) ((((ad / 4) - (ad / 4) / 2 * 2) * 2) + 1).toNatClampNeg (ad / 4)))) H := hP
                have hD : va_D (gA G) (mw G (tJ (tI σ 9 ((mI σ 9) + 1)) 3 (upd (mJ σ 3) ((((ad / 4) - (ad / 4) / 2 * 2) * 2) + 1).toNatClampNeg (ad / 4)))) := g.d
                refine lv_aload_n hx hb d_Mo_missLine_118 rfl (lv_at hl 3 rfl) ?_
                refine va_get (D := gD G) (ci := 7) (v := .ref (gad G 30)) (C := R_Mo) (T := F_Mo) (N := 29) hx hb (wl_Mo hT) (fun _ h9 => h9) hown hK hP 0 rfl rfl 9 (by decide) (k_579 hT) (fun _ h9 => h9) rfl d_Mo_missLine_119 ?_
                refine lv_iload hx hb d_Mo_missLine_122 (lv_at hl 0 rfl) ?_
                refine lv_aload_n hx hb d_Mo_missLine_124 rfl (lv_at hl 3 rfl) ?_
                refine va_get (D := gD G) (ci := 7) (v := .int ((mI σ 9) + 1)) (C := R_Mo) (T := F_Mo) (N := 29) hx hb (wl_Mo hT) (fun _ h9 => h9) hown hK hP 0 rfl rfl 25 (by decide) (k_595 hT) (fun _ h9 => h9) rfl d_Mo_missLine_125 ?_
                refine va_iast (f := (mJ σ 4)) hx hb hK hP hD hS 10 0 rfl rfl (ls2 h) d_Mo_missLine_128 (fun H locs hP hD hS => ?_)
                have hP : va_P (gD G) classes (mw G (tJ (tJ (tI σ 9 ((mI σ 9) + 1)) 3 (upd (mJ σ 3) ((((ad / 4) - (ad / 4) / 2 * 2) * 2) + 1).toNatClampNeg (ad / 4))) 4 (upd (mJ σ 4) ((((ad / 4) - (ad / 4) / 2 * 2) * 2) + 1).toNatClampNeg ((mI σ 9) + 1)))) H := hP
                have hD : va_D (gA G) (mw G (tJ (tJ (tI σ 9 ((mI σ 9) + 1)) 3 (upd (mJ σ 3) ((((ad / 4) - (ad / 4) / 2 * 2) * 2) + 1).toNatClampNeg (ad / 4))) 4 (upd (mJ σ 4) ((((ad / 4) - (ad / 4) / 2 * 2) * 2) + 1).toNatClampNeg ((mI σ 9) + 1)))) := g.d
                refine lv_aload_n hx hb d_Mo_missLine_129 rfl (lv_at hl 3 rfl) ?_
                refine lv_dup hx hb d_Mo_missLine_130 rfl ?_
                refine va_get (D := gD G) (ci := 7) (v := .int (mI σ 8)) (C := R_Mo) (T := F_Mo) (N := 29) hx hb (wl_Mo hT) (fun _ h9 => h9) hown hK hP 0 rfl rfl 21 (by decide) (k_591 hT) (fun _ h9 => h9) rfl d_Mo_missLine_131 ?_
                refine lv_iconst (v := 1) hx hb d_Mo_missLine_134 (by decide) ?_
                refine lv_iadd hx hb d_Mo_missLine_135 ?_
                refine va_put (D := gD G) (ci := 7) (v := .int ((mI σ 8) + 1)) (ty := .int) (C := R_Mo) (T := F_Mo) (N := 29) hx hb (wl_Mo hT) (fun _ h9 => h9) fy_Mo fy_Mo_ok fn_Mo hown hK hP hD hS 0 rfl rfl 21 (by decide) (k_591 hT) (fun _ h9 => h9) rfl (by decide +kernel) rfl rfl (Nat.le_of_ble_eq_true rfl) d_Mo_missLine_136 (fun H locs hP hD hS => ?_)
                have hP : va_P (gD G) classes (mw G (tI (tJ (tJ (tI σ 9 ((mI σ 9) + 1)) 3 (upd (mJ σ 3) ((((ad / 4) - (ad / 4) / 2 * 2) * 2) + 1).toNatClampNeg (ad / 4))) 4 (upd (mJ σ 4) ((((ad / 4) - (ad / 4) / 2 * 2) * 2) + 1).toNatClampNeg ((mI σ 9) + 1))) 8 ((mI σ 8) + 1))) H := hP
                have hD : va_D (gA G) (mw G (tI (tJ (tJ (tI σ 9 ((mI σ 9) + 1)) 3 (upd (mJ σ 3) ((((ad / 4) - (ad / 4) / 2 * 2) * 2) + 1).toNatClampNeg (ad / 4))) 4 (upd (mJ σ 4) ((((ad / 4) - (ad / 4) / 2 * 2) * 2) + 1).toNatClampNeg ((mI σ 9) + 1))) 8 ((mI σ 8) + 1))) := g.d
                refine lv_iconst (v := 1) hx hb d_Mo_missLine_139 (by decide) ?_
                exact mend_z (u := (tI (tJ (tJ (tI σ 9 ((mI σ 9) + 1)) 3 (upd (mJ σ 3) ((((ad / 4) - (ad / 4) / 2 * 2) * 2) + 1).toNatClampNeg (ad / 4))) 4 (upd (mJ σ 4) ((((ad / 4) - (ad / 4) / 2 * 2) * 2) + 1).toNatClampNeg ((mI σ 9) + 1))) 8 ((mI σ 8) + 1))) hx hb hr hlocks hS hP d_Mo_missLine_140 rfl (⟨by unfold mlF ml1 ml2; simp only [mJ_tI, mI_tI, ix]; rw [if_neg c39, if_neg c39', if_neg c70, if_pos c81]; rfl, by unfold mlF ml1 ml2; simp only [mJ_tI, mI_tI, ix]; rw [if_neg c39, if_neg c39', if_neg c70, if_pos c81]; rfl⟩)
              · refine lv_aload_n hx hb d_Mo_missLine_84 rfl (lv_at hl 3 rfl) ?_
                refine va_get (D := gD G) (ci := 7) (v := .ref (gad G 30)) (C := R_Mo) (T := F_Mo) (N := 29) hx hb (wl_Mo hT) (fun _ h9 => h9) hown hK hP 0 rfl rfl 9 (by decide) (k_579 hT) (fun _ h9 => h9) rfl d_Mo_missLine_85 ?_
                refine lv_iload_n hx hb d_Mo_missLine_88 rfl (lv_at hl 1 rfl) ?_
                refine va_iald (f := (mJ σ 4)) hx hb hK hP 10 0 rfl rfl (ls1 h) d_Mo_missLine_89 ?_
                refine lv_aload_n hx hb d_Mo_missLine_90 rfl (lv_at hl 3 rfl) ?_
                refine va_get (D := gD G) (ci := 7) (v := .ref (gad G 30)) (C := R_Mo) (T := F_Mo) (N := 29) hx hb (wl_Mo hT) (fun _ h9 => h9) hown hK hP 0 rfl rfl 9 (by decide) (k_579 hT) (fun _ h9 => h9) rfl d_Mo_missLine_91 ?_
                refine lv_iload_n hx hb d_Mo_missLine_94 rfl (lv_at hl 1 rfl) ?_
                refine lv_iconst (v := 1) hx hb d_Mo_missLine_95 (by decide) ?_
                refine lv_iadd hx hb d_Mo_missLine_96 ?_
                refine va_iald (f := (mJ σ 4)) hx hb hK hP 10 0 rfl rfl (ls2 h) d_Mo_missLine_97 ?_
                refine lv_icmp_ge (tgt := 105) hx hb d_Mo_missLine_98 (by decide) (fun c98 => ?_) (fun c98 => ?_)
                · refine lv_iload_n hx hb d_Mo_missLine_105 rfl (lv_at hl 1 rfl) ?_
                  refine lv_iconst (v := 1) hx hb d_Mo_missLine_106 (by decide) ?_
                  refine lv_iadd hx hb d_Mo_missLine_107 ?_
                  refine lv_istore (lv' := [(4, .int ((((ad / 4) - (ad / 4) / 2 * 2) * 2) + 1)), (3, .int (((ad / 4) - (ad / 4) / 2 * 2) * 2)), (2, .int (ad / 4)), (0, .ref (gad G 20)), (1, .int ad)]) hx hb d_Mo_missLine_108 hl (by decide) rfl (fun ls hl => ?_)
                  refine lv_aload_n hx hb d_Mo_missLine_110 rfl (lv_at hl 3 rfl) ?_
                  refine va_get (D := gD G) (ci := 7) (v := .ref (gad G 29)) (C := R_Mo) (T := F_Mo) (N := 29) hx hb (wl_Mo hT) (fun _ h9 => h9) hown hK hP 0 rfl rfl 8 (by decide) (k_578 hT) (fun _ h9 => h9) rfl d_Mo_missLine_111 ?_
                  refine lv_iload hx hb d_Mo_missLine_114 (lv_at hl 0 rfl) ?_
                  refine lv_iload_n hx hb d_Mo_missLine_116 rfl (lv_at hl 2 rfl) ?_
                  refine va_iast (f := (mJ σ 3)) hx hb hK hP hD hS 9 0 rfl rfl (ls2 h) d_Mo_missLine_117 (fun H locs hP hD hS => ?_)
                  have hP : va_P (gD G) classes (mw G (tJ (tI σ 9 ((mI σ 9) + 1)) 3 (upd (mJ σ 3) ((((ad / 4) - (ad / 4) / 2 * 2) * 2) + 1).toNatClampNeg (ad / 4)))) H := hP
                  have hD : va_D (gA G) (mw G (tJ (tI σ 9 ((mI σ 9) + 1)) 3 (upd (mJ σ 3) ((((ad / 4) - (ad / 4) / 2 * 2) * 2) + 1).toNatClampNeg (ad / 4)))) := g.d
                  refine lv_aload_n hx hb d_Mo_missLine_118 rfl (lv_at hl 3 rfl) ?_
                  refine va_get (D := gD G) (ci := 7) (v := .ref (gad G 30)) (C := R_Mo) (T := F_Mo) (N := 29) hx hb (wl_Mo hT) (fun _ h9 => h9) hown hK hP 0 rfl rfl 9 (by decide) (k_579 hT) (fun _ h9 => h9) rfl d_Mo_missLine_119 ?_
                  refine lv_iload hx hb d_Mo_missLine_122 (lv_at hl 0 rfl) ?_
                  refine lv_aload_n hx hb d_Mo_missLine_124 rfl (lv_at hl 3 rfl) ?_
                  refine va_get (D := gD G) (ci := 7) (v := .int ((mI σ 9) + 1)) (C := R_Mo) (T := F_Mo) (N := 29) hx hb (wl_Mo hT) (fun _ h9 => h9) hown hK hP 0 rfl rfl 25 (by decide) (k_595 hT) (fun _ h9 => h9) rfl d_Mo_missLine_125 ?_
                  refine va_iast (f := (mJ σ 4)) hx hb hK hP hD hS 10 0 rfl rfl (ls2 h) d_Mo_missLine_128 (fun H locs hP hD hS => ?_)
                  have hP : va_P (gD G) classes (mw G (tJ (tJ (tI σ 9 ((mI σ 9) + 1)) 3 (upd (mJ σ 3) ((((ad / 4) - (ad / 4) / 2 * 2) * 2) + 1).toNatClampNeg (ad / 4))) 4 (upd (mJ σ 4) ((((ad / 4) - (ad / 4) / 2 * 2) * 2) + 1).toNatClampNeg ((mI σ 9) + 1)))) H := hP
                  have hD : va_D (gA G) (mw G (tJ (tJ (tI σ 9 ((mI σ 9) + 1)) 3 (upd (mJ σ 3) ((((ad / 4) - (ad / 4) / 2 * 2) * 2) + 1).toNatClampNeg (ad / 4))) 4 (upd (mJ σ 4) ((((ad / 4) - (ad / 4) / 2 * 2) * 2) + 1).toNatClampNeg ((mI σ 9) + 1)))) := g.d
                  refine lv_aload_n hx hb d_Mo_missLine_129 rfl (lv_at hl 3 rfl) ?_
                  refine lv_dup hx hb d_Mo_missLine_130 rfl ?_
                  refine va_get (D := gD G) (ci := 7) (v := .int (mI σ 8)) (C := R_Mo) (T := F_Mo) (N := 29) hx hb (wl_Mo hT) (fun _ h9 => h9) hown hK hP 0 rfl rfl 21 (by decide) (k_591 hT) (fun _ h9 => h9) rfl d_Mo_missLine_131 ?_
                  refine lv_iconst (v := 1) hx hb d_Mo_missLine_134 (by decide) ?_
                  refine lv_iadd hx hb d_Mo_missLine_135 ?_
                  refine va_put (D := gD G) (ci := 7) (v := .int ((mI σ 8) + 1)) (ty := .int) (C := R_Mo) (T := F_Mo) (N := 29) hx hb (wl_Mo hT) (fun _ h9 => h9) fy_Mo fy_Mo_ok fn_Mo hown hK hP hD hS 0 rfl rfl 21 (by decide) (k_591 hT) (fun _ h9 => h9) rfl (by decide +kernel) rfl rfl (Nat.le_of_ble_eq_true rfl) d_Mo_missLine_136 (fun H locs hP hD hS => ?_)
                  have hP : va_P (gD G) classes (mw G (tI (tJ (tJ (tI σ 9 ((mI σ 9) + 1)) 3 (upd (mJ σ 3) ((((ad / 4) - (ad / 4) / 2 * 2) * 2) + 1).toNatClampNeg (ad / 4))) 4 (upd (mJ σ 4) ((((ad / 4) - (ad / 4) / 2 * 2) * 2) + 1).toNatClampNeg ((mI σ 9) + 1))) 8 ((mI σ 8) + 1))) H := hP
                  have hD : va_D (gA G) (mw G (tI (tJ (tJ (tI σ 9 ((mI σ 9) + 1)) 3 (upd (mJ σ 3) ((((ad / 4) - (ad / 4) / 2 * 2) * 2) + 1).toNatClampNeg (ad / 4))) 4 (upd (mJ σ 4) ((((ad / 4) - (ad / 4) / 2 * 2) * 2) + 1).toNatClampNeg ((mI σ 9) + 1))) 8 ((mI σ 8) + 1))) := g.d
                  refine lv_iconst (v := 1) hx hb d_Mo_missLine_139 (by decide) ?_
                  exact mend_z (u := (tI (tJ (tJ (tI σ 9 ((mI σ 9) + 1)) 3 (upd (mJ σ 3) ((((ad / 4) - (ad / 4) / 2 * 2) * 2) + 1).toNatClampNeg (ad / 4))) 4 (upd (mJ σ 4) ((((ad / 4) - (ad / 4) / 2 * 2) * 2) + 1).toNatClampNeg ((mI σ 9) + 1))) 8 ((mI σ 8) + 1))) hx hb hr hlocks hS hP d_Mo_missLine_140 rfl (⟨by unfold mlF ml1 ml2; simp only [mJ_tI, mI_tI, ix]; rw [if_neg c39, if_neg c39', if_neg c70, if_neg c81, if_pos c98]; rfl, by unfold mlF ml1 ml2; simp only [mJ_tI, mI_tI, ix]; rw [if_neg c39, if_neg c39', if_neg c70, if_neg c81, if_pos c98]; rfl⟩)
                · refine lv_iload_n hx hb d_Mo_missLine_101 rfl (lv_at hl 1 rfl) ?_
                  refine lv_goto (tgt := 108) hx hb d_Mo_missLine_102 (by decide) ?_
                  refine lv_istore (lv' := [(4, .int (((ad / 4) - (ad / 4) / 2 * 2) * 2)), (3, .int (((ad / 4) - (ad / 4) / 2 * 2) * 2)), (2, .int (ad / 4)), (0, .ref (gad G 20)), (1, .int ad)]) hx hb d_Mo_missLine_108 hl (by decide) rfl (fun ls hl => ?_)
                  refine lv_aload_n hx hb d_Mo_missLine_110 rfl (lv_at hl 3 rfl) ?_
                  refine va_get (D := gD G) (ci := 7) (v := .ref (gad G 29)) (C := R_Mo) (T := F_Mo) (N := 29) hx hb (wl_Mo hT) (fun _ h9 => h9) hown hK hP 0 rfl rfl 8 (by decide) (k_578 hT) (fun _ h9 => h9) rfl d_Mo_missLine_111 ?_
                  refine lv_iload hx hb d_Mo_missLine_114 (lv_at hl 0 rfl) ?_
                  refine lv_iload_n hx hb d_Mo_missLine_116 rfl (lv_at hl 2 rfl) ?_
                  refine va_iast (f := (mJ σ 3)) hx hb hK hP hD hS 9 0 rfl rfl (ls1 h) d_Mo_missLine_117 (fun H locs hP hD hS => ?_)
                  have hP : va_P (gD G) classes (mw G (tJ (tI σ 9 ((mI σ 9) + 1)) 3 (upd (mJ σ 3) (((ad / 4) - (ad / 4) / 2 * 2) * 2).toNatClampNeg (ad / 4)))) H := hP
                  have hD : va_D (gA G) (mw G (tJ (tI σ 9 ((mI σ 9) + 1)) 3 (upd (mJ σ 3) (((ad / 4) - (ad / 4) / 2 * 2) * 2).toNatClampNeg (ad / 4)))) := g.d
                  refine lv_aload_n hx hb d_Mo_missLine_118 rfl (lv_at hl 3 rfl) ?_
                  refine va_get (D := gD G) (ci := 7) (v := .ref (gad G 30)) (C := R_Mo) (T := F_Mo) (N := 29) hx hb (wl_Mo hT) (fun _ h9 => h9) hown hK hP 0 rfl rfl 9 (by decide) (k_579 hT) (fun _ h9 => h9) rfl d_Mo_missLine_119 ?_
                  refine lv_iload hx hb d_Mo_missLine_122 (lv_at hl 0 rfl) ?_
                  refine lv_aload_n hx hb d_Mo_missLine_124 rfl (lv_at hl 3 rfl) ?_
                  refine va_get (D := gD G) (ci := 7) (v := .int ((mI σ 9) + 1)) (C := R_Mo) (T := F_Mo) (N := 29) hx hb (wl_Mo hT) (fun _ h9 => h9) hown hK hP 0 rfl rfl 25 (by decide) (k_595 hT) (fun _ h9 => h9) rfl d_Mo_missLine_125 ?_
                  refine va_iast (f := (mJ σ 4)) hx hb hK hP hD hS 10 0 rfl rfl (ls1 h) d_Mo_missLine_128 (fun H locs hP hD hS => ?_)
                  have hP : va_P (gD G) classes (mw G (tJ (tJ (tI σ 9 ((mI σ 9) + 1)) 3 (upd (mJ σ 3) (((ad / 4) - (ad / 4) / 2 * 2) * 2).toNatClampNeg (ad / 4))) 4 (upd (mJ σ 4) (((ad / 4) - (ad / 4) / 2 * 2) * 2).toNatClampNeg ((mI σ 9) + 1)))) H := hP
                  have hD : va_D (gA G) (mw G (tJ (tJ (tI σ 9 ((mI σ 9) + 1)) 3 (upd (mJ σ 3) (((ad / 4) - (ad / 4) / 2 * 2) * 2).toNatClampNeg (ad / 4))) 4 (upd (mJ σ 4) (((ad / 4) - (ad / 4) / 2 * 2) * 2).toNatClampNeg ((mI σ 9) + 1)))) := g.d
                  refine lv_aload_n hx hb d_Mo_missLine_129 rfl (lv_at hl 3 rfl) ?_
                  refine lv_dup hx hb d_Mo_missLine_130 rfl ?_
                  refine va_get (D := gD G) (ci := 7) (v := .int (mI σ 8)) (C := R_Mo) (T := F_Mo) (N := 29) hx hb (wl_Mo hT) (fun _ h9 => h9) hown hK hP 0 rfl rfl 21 (by decide) (k_591 hT) (fun _ h9 => h9) rfl d_Mo_missLine_131 ?_
                  refine lv_iconst (v := 1) hx hb d_Mo_missLine_134 (by decide) ?_
                  refine lv_iadd hx hb d_Mo_missLine_135 ?_
                  refine va_put (D := gD G) (ci := 7) (v := .int ((mI σ 8) + 1)) (ty := .int) (C := R_Mo) (T := F_Mo) (N := 29) hx hb (wl_Mo hT) (fun _ h9 => h9) fy_Mo fy_Mo_ok fn_Mo hown hK hP hD hS 0 rfl rfl 21 (by decide) (k_591 hT) (fun _ h9 => h9) rfl (by decide +kernel) rfl rfl (Nat.le_of_ble_eq_true rfl) d_Mo_missLine_136 (fun H locs hP hD hS => ?_)
                  have hP : va_P (gD G) classes (mw G (tI (tJ (tJ (tI σ 9 ((mI σ 9) + 1)) 3 (upd (mJ σ 3) (((ad / 4) - (ad / 4) / 2 * 2) * 2).toNatClampNeg (ad / 4))) 4 (upd (mJ σ 4) (((ad / 4) - (ad / 4) / 2 * 2) * 2).toNatClampNeg ((mI σ 9) + 1))) 8 ((mI σ 8) + 1))) H := hP
                  have hD : va_D (gA G) (mw G (tI (tJ (tJ (tI σ 9 ((mI σ 9) + 1)) 3 (upd (mJ σ 3) (((ad / 4) - (ad / 4) / 2 * 2) * 2).toNatClampNeg (ad / 4))) 4 (upd (mJ σ 4) (((ad / 4) - (ad / 4) / 2 * 2) * 2).toNatClampNeg ((mI σ 9) + 1))) 8 ((mI σ 8) + 1))) := g.d
                  refine lv_iconst (v := 1) hx hb d_Mo_missLine_139 (by decide) ?_
                  exact mend_z (u := (tI (tJ (tJ (tI σ 9 ((mI σ 9) + 1)) 3 (upd (mJ σ 3) (((ad / 4) - (ad / 4) / 2 * 2) * 2).toNatClampNeg (ad / 4))) 4 (upd (mJ σ 4) (((ad / 4) - (ad / 4) / 2 * 2) * 2).toNatClampNeg ((mI σ 9) + 1))) 8 ((mI σ 8) + 1))) hx hb hr hlocks hS hP d_Mo_missLine_140 rfl (⟨by unfold mlF ml1 ml2; simp only [mJ_tI, mI_tI, ix]; rw [if_neg c39, if_neg c39', if_neg c70, if_neg c81, if_neg c98]; rfl, by unfold mlF ml1 ml2; simp only [mJ_tI, mI_tI, ix]; rw [if_neg c39, if_neg c39', if_neg c70, if_neg c81, if_neg c98]; rfl⟩)
          · exact absurd (ls3 h).2.2 c28

set_option maxHeartbeats 4000000 in
set_option maxRecDepth 100000 in
theorem K_Mo_next {l : Launch} {G : GT} (g : MOK l G) (σ : MS) (i : Int32) (h : vp_in i 24) (hq : okM (mq σ (ix i))) : cx_M l y_Mo_next (.code y_Mo_next b_Mo_next 5 (some .int)) 1 20 (gA G) [.ref (gad G 20), .int i] (Mw G σ) (Mi G (fun r u => r = (nxF σ i (mq σ (ix i))).1 ∧ u = (nxF σ i (mq σ (ix i))).2)) (Tn) := by
  refine cx_of (by decide +kernel) ?_
  intro p e s m below meth c s₁ B hml ht hc
  have hx := B.exec
  have hb := B.bytes
  have hr := B.returns
  have hown : s.vm.findClass R_Mo = some m.cls := findClass_of_methodNamed B.named
  have hlocks := B.notSynchronized
  have hT := g.tb hc
  have hK := g.k hc
  have hD := g.d (τ := σ)
  have hS : va_S (gA G) s.heap s.heap [] := va_S.rf
  have hP := hc.2.2
  have hl := lv_entry ([.ref (gad G 20), .int i]) (n := 5) (Nat.le_of_ble_eq_true rfl)
  rw [lg_entry_eq]
  generalize (lg_sl ([.ref (gad G 20), .int i]) ++ List.replicate (5 - (lg_sl ([.ref (gad G 20), .int i])).length) Slot.unset).toArray = ls at hl ⊢
  have hl : lv_has ls 5 [(0, .ref (gad G 20)), (1, .int i)] := hl
  refine lv_aload_n hx hb d_Mo_next_0 rfl (lv_at hl 0 rfl) ?_
  refine va_get (D := gD G) (ci := 7) (v := .ref (gad G 21)) (C := R_Mo) (T := F_Mo) (N := 29) hx hb (wl_Mo hT) (fun _ h9 => h9) hown hK hP 0 rfl rfl 0 (by decide) (k_570 hT) (fun _ h9 => h9) rfl d_Mo_next_1 ?_
  refine lv_iload_n hx hb d_Mo_next_4 rfl (lv_at hl 1 rfl) ?_
  refine va_iald (f := (mJ σ 6)) hx hb hK hP 1 0 rfl rfl (h) d_Mo_next_5 ?_
  refine lv_istore_n (lv' := [(2, .int ((mJ σ 6) i.toNatClampNeg)), (0, .ref (gad G 20)), (1, .int i)]) hx hb d_Mo_next_6 rfl hl (by decide) rfl (fun ls hl => ?_)
  refine lv_iload_n hx hb d_Mo_next_7 rfl (lv_at hl 0 rfl) ?_
  refine lv_bipush (v := 19) hx hb d_Mo_next_8 (by decide) ?_
  refine lv_icmp_ne (tgt := 23) hx hb d_Mo_next_10 (by decide) (fun c10 => ?_) (fun c10 => ?_)
  · refine lv_iload_n hx hb d_Mo_next_23 rfl (lv_at hl 0 rfl) ?_
    refine lv_bipush (v := 17) hx hb d_Mo_next_24 (by decide) ?_
    refine lv_icmp_ge (tgt := 36) hx hb d_Mo_next_26 (by decide) (fun c26 => ?_) (fun c26 => ?_)
    · refine lv_aload_n hx hb d_Mo_next_36 rfl (lv_at hl 1 rfl) ?_
      refine va_get (D := gD G) (ci := 7) (v := .ref (gad G 26)) (C := R_Mo) (T := F_Mo) (N := 29) hx hb (wl_Mo hT) (fun _ h9 => h9) hown hK hP 0 rfl rfl 5 (by decide) (k_575 hT) (fun _ h9 => h9) rfl d_Mo_next_37 ?_
      refine lv_aload_n hx hb d_Mo_next_40 rfl (lv_at hl 1 rfl) ?_
      refine va_get (D := gD G) (ci := 7) (v := .ref (gad G 23)) (C := R_Mo) (T := F_Mo) (N := 29) hx hb (wl_Mo hT) (fun _ h9 => h9) hown hK hP 0 rfl rfl 2 (by decide) (k_572 hT) (fun _ h9 => h9) rfl d_Mo_next_41 ?_
      refine lv_iload_n hx hb d_Mo_next_44 rfl (lv_at hl 2 rfl) ?_
      refine va_iald (f := (mJ σ 8)) hx hb hK hP 3 0 rfl rfl (h) d_Mo_next_45 ?_
      refine va_iald (f := (mJ σ 0)) hx hb hK hP 6 0 rfl rfl (hq.2.2.1) d_Mo_next_46 ?_
      refine lv_aload_n hx hb d_Mo_next_47 rfl (lv_at hl 1 rfl) ?_
      refine va_get (D := gD G) (ci := 7) (v := .ref (gad G 26)) (C := R_Mo) (T := F_Mo) (N := 29) hx hb (wl_Mo hT) (fun _ h9 => h9) hown hK hP 0 rfl rfl 5 (by decide) (k_575 hT) (fun _ h9 => h9) rfl d_Mo_next_48 ?_
      refine lv_aload_n hx hb d_Mo_next_51 rfl (lv_at hl 1 rfl) ?_
      refine va_get (D := gD G) (ci := 7) (v := .ref (gad G 24)) (C := R_Mo) (T := F_Mo) (N := 29) hx hb (wl_Mo hT) (fun _ h9 => h9) hown hK hP 0 rfl rfl 3 (by decide) (k_573 hT) (fun _ h9 => h9) rfl d_Mo_next_52 ?_
      refine lv_iload_n hx hb d_Mo_next_55 rfl (lv_at hl 2 rfl) ?_
      refine va_iald (f := (mJ σ 9)) hx hb hK hP 4 0 rfl rfl (h) d_Mo_next_56 ?_
      refine va_iald (f := (mJ σ 0)) hx hb hK hP 6 0 rfl rfl (hq.2.2.2) d_Mo_next_57 ?_
      refine lv_icmp_ne (tgt := 65) hx hb d_Mo_next_58 (by decide) (fun c58 => ?_) (fun c58 => ?_)
      · refine lv_iconst (v := 0) hx hb d_Mo_next_65 (by decide) ?_
        refine lv_iload_n hx hb d_Mo_next_66 rfl (lv_at hl 0 rfl) ?_
        refine lv_bipush (v := 17) hx hb d_Mo_next_67 (by decide) ?_
        refine lv_icmp_ne (tgt := 76) hx hb d_Mo_next_69 (by decide) (fun c69 => ?_) (fun c69 => ?_)
        · refine lv_iconst (v := 0) hx hb d_Mo_next_76 (by decide) ?_
          refine lv_icmp_ne (tgt := 84) hx hb d_Mo_next_77 (by decide) (fun c77 => ?_) (fun c77 => ?_)
          · exact absurd (by decide) c77
          · refine lv_iconst (v := 1) hx hb d_Mo_next_80 (by decide) ?_
            refine lv_goto (tgt := 85) hx hb d_Mo_next_81 (by decide) ?_
            refine lv_istore_n (lv' := [(3, .int 1), (2, .int ((mJ σ 6) i.toNatClampNeg)), (0, .ref (gad G 20)), (1, .int i)]) hx hb d_Mo_next_85 rfl hl (by decide) rfl (fun ls hl => ?_)
            refine lv_iload_n hx hb d_Mo_next_86 rfl (lv_at hl 3 rfl) ?_
            refine lv_bipush (v := 8) hx hb d_Mo_next_87 (by decide) ?_
            refine lv_irem hx hb d_Mo_next_89 (by decide) ?_
            refine lv_istore (lv' := [(4, .int (i - i / 8 * 8)), (3, .int 1), (2, .int ((mJ σ 6) i.toNatClampNeg)), (0, .ref (gad G 20)), (1, .int i)]) hx hb d_Mo_next_90 hl (by decide) rfl (fun ls hl => ?_)
            refine lv_aload_n hx hb d_Mo_next_92 rfl (lv_at hl 3 rfl) ?_
            refine lv_aload_n hx hb d_Mo_next_93 rfl (lv_at hl 3 rfl) ?_
            refine va_get (D := gD G) (ci := 7) (v := .ref (gad G 31)) (C := R_Mo) (T := F_Mo) (N := 29) hx hb (wl_Mo hT) (fun _ h9 => h9) hown hK hP 0 rfl rfl 10 (by decide) (k_580 hT) (fun _ h9 => h9) rfl d_Mo_next_94 ?_
            refine lv_iload hx hb d_Mo_next_97 (lv_at hl 0 rfl) ?_
            refine va_iald (f := (mJ σ 5)) hx hb hK hP 11 0 rfl rfl (at8 h) d_Mo_next_99 ?_
            refine lv_iconst (v := 1) hx hb d_Mo_next_100 (by decide) ?_
            refine lv_icmp_le (tgt := 108) hx hb d_Mo_next_101 (by decide) (fun c101 => ?_) (fun c101 => ?_)
            · refine lv_iconst (v := 0) hx hb d_Mo_next_108 (by decide) ?_
              refine lv_iload_n hx hb d_Mo_next_109 rfl (lv_at hl 1 rfl) ?_
              refine lv_icmp_eq (tgt := 117) hx hb d_Mo_next_110 (by decide) (fun c110 => ?_) (fun c110 => ?_)
              · exact absurd c110 (by decide)
              · refine lv_iconst (v := 1) hx hb d_Mo_next_113 (by decide) ?_
                refine lv_goto (tgt := 118) hx hb d_Mo_next_114 (by decide) ?_
                refine va_put (D := gD G) (ci := 7) (v := .int 1) (ty := .boolean) (C := R_Mo) (T := F_Mo) (N := 29) hx hb (wl_Mo hT) (fun _ h9 => h9) fy_Mo fy_Mo_ok fn_Mo hown hK hP hD hS 0 rfl rfl 28 (by decide) (k_598 hT) (fun _ h9 => h9) rfl (by decide +kernel) rfl rfl (Nat.le_of_ble_eq_true rfl) d_Mo_next_118 (fun H locs hP hD hS => ?_)
                have hP : va_P (gD G) classes (mw G (tI σ 6 1)) H := hP
                have hD : va_D (gA G) (mw G (tI σ 6 1)) := g.d
                refine lv_aload_n hx hb d_Mo_next_121 rfl (lv_at hl 3 rfl) ?_
                refine va_get (D := gD G) (ci := 7) (v := .int 1) (C := R_Mo) (T := F_Mo) (N := 29) hx hb (wl_Mo hT) (fun _ h9 => h9) hown hK hP 0 rfl rfl 28 (by decide) (k_598 hT) (fun _ h9 => h9) rfl d_Mo_next_122 ?_
                refine lv_if_eq (tgt := 138) hx hb d_Mo_next_125 (by decide) (fun c125 => ?_) (fun c125 => ?_)
                · exact absurd c125 (by decide)
                · refine lv_aload_n hx hb d_Mo_next_128 rfl (lv_at hl 3 rfl) ?_
                  refine lv_dup hx hb d_Mo_next_129 rfl ?_
                  refine va_get (D := gD G) (ci := 7) (v := .int (mI σ 10)) (C := R_Mo) (T := F_Mo) (N := 29) hx hb (wl_Mo hT) (fun _ h9 => h9) hown hK hP 0 rfl rfl 22 (by decide) (k_592 hT) (fun _ h9 => h9) rfl d_Mo_next_130 ?_
                  refine lv_iconst (v := 1) hx hb d_Mo_next_133 (by decide) ?_
                  refine lv_iadd hx hb d_Mo_next_134 ?_
                  refine va_put (D := gD G) (ci := 7) (v := .int ((mI σ 10) + 1)) (ty := .int) (C := R_Mo) (T := F_Mo) (N := 29) hx hb (wl_Mo hT) (fun _ h9 => h9) fy_Mo fy_Mo_ok fn_Mo hown hK hP hD hS 0 rfl rfl 22 (by decide) (k_592 hT) (fun _ h9 => h9) rfl (by decide +kernel) rfl rfl (Nat.le_of_ble_eq_true rfl) d_Mo_next_135 (fun H locs hP hD hS => ?_)
                  have hP : va_P (gD G) classes (mw G (tI (tI σ 6 1) 10 ((mI σ 10) + 1))) H := hP
                  have hD : va_D (gA G) (mw G (tI (tI σ 6 1) 10 ((mI σ 10) + 1))) := g.d
                  refine lv_iload_n hx hb d_Mo_next_138 rfl (lv_at hl 1 rfl) ?_
                  refine lv_if_eq (tgt := 164) hx hb d_Mo_next_139 (by decide) (fun c139 => ?_) (fun c139 => ?_)
                  · exact absurd c139 (by decide)
                  · refine lv_aload_n hx hb d_Mo_next_142 rfl (lv_at hl 3 rfl) ?_
                    refine va_get (D := gD G) (ci := 7) (v := .ref (gad G 31)) (C := R_Mo) (T := F_Mo) (N := 29) hx hb (wl_Mo hT) (fun _ h9 => h9) hown hK hP 0 rfl rfl 10 (by decide) (k_580 hT) (fun _ h9 => h9) rfl d_Mo_next_143 ?_
                    refine lv_iload hx hb d_Mo_next_146 (lv_at hl 0 rfl) ?_
                    refine va_iald (f := (mJ σ 5)) hx hb hK hP 11 0 rfl rfl (at8 h) d_Mo_next_148 ?_
                    refine lv_iconst (v := 3) hx hb d_Mo_next_149 (by decide) ?_
                    refine lv_icmp_ge (tgt := 164) hx hb d_Mo_next_150 (by decide) (fun c150 => ?_) (fun c150 => ?_)
                    · refine lv_iload_n hx hb d_Mo_next_164 rfl (lv_at hl 1 rfl) ?_
                      refine lv_if_ne (tgt := 189) hx hb d_Mo_next_165 (by decide) (fun c165 => ?_) (fun c165 => ?_)
                      · refine lv_iload_n hx hb d_Mo_next_189 rfl (lv_at hl 1 rfl) ?_
                        refine lv_if_eq (tgt := 205) hx hb d_Mo_next_190 (by decide) (fun c190 => ?_) (fun c190 => ?_)
                        · exact absurd c190 (by decide)
                        · refine lv_aload_n hx hb d_Mo_next_193 rfl (lv_at hl 3 rfl) ?_
                          refine va_get (D := gD G) (ci := 7) (v := .ref (gad G 25)) (C := R_Mo) (T := F_Mo) (N := 29) hx hb (wl_Mo hT) (fun _ h9 => h9) hown hK hP 0 rfl rfl 4 (by decide) (k_574 hT) (fun _ h9 => h9) rfl d_Mo_next_194 ?_
                          refine lv_iload_n hx hb d_Mo_next_197 rfl (lv_at hl 4 rfl) ?_
                          refine va_iald (f := (mJ σ 10)) hx hb hK hP 5 0 rfl rfl (h) d_Mo_next_198 ?_
                          refine cx_S (n := 1) (As := [.int ((mJ σ 10) i.toNatClampNeg)]) (rest := []) ⟨hx, hb, hml, hown, fun _ h9 => nomatch h9⟩ (K_Mo_modulo g (tI (tI σ 6 1) 10 ((mI σ 10) + 1)) ((mJ σ 10) i.toNatClampNeg) ) (k_740 hT) (k_741 hT) (k_742 hT) (k_9 hT) rfl (by decide +kernel) (hc.at g hS hP) ⟨by decide, by decide⟩ ⟨by decide, by decide⟩ hl.1 (Nat.le_of_ble_eq_true rfl) d_Mo_next_199 (fun _ h9 => h9) hS (fun _ _ _ _ _ _ _ h9 => h9.elim) (fun v t H locs ht9 hRt hz hk hS => ?_)
                          obtain ⟨r, u, rfl, ⟨er, eu⟩, hP⟩ := hRt
                          subst er
                          rw [eu, ht9] at hP
                          have hD : va_D (gA G) (mw G (tI (tI σ 6 1) 10 ((mI σ 10) + 1))) := g.d
                          refine W.eq (g2 := F0 m 202 ls [.int (mdl ((mJ σ 10) i.toNatClampNeg))]) rfl ?_
                          refine lv_goto (tgt := 211) hx hb d_Mo_next_202 (by decide) ?_
                          exact mend_i (u := (tI (tI σ 6 1) 10 ((mI σ 10) + 1))) hx hb hr hlocks hS hP d_Mo_next_211 (⟨by unfold nxF jmM mq; simp [ix, c10, c26, c58, c69, c101, c150], by unfold nxF nx2 nx1 wrM jmM mq; simp [ix, b2i, mJ_tI, mI_tI, c10, c26, c58, c69, c101, c150]⟩)
                      · exact absurd c165 (by decide)
                    · refine lv_aload_n hx hb d_Mo_next_153 rfl (lv_at hl 3 rfl) ?_
                      refine va_get (D := gD G) (ci := 7) (v := .ref (gad G 31)) (C := R_Mo) (T := F_Mo) (N := 29) hx hb (wl_Mo hT) (fun _ h9 => h9) hown hK hP 0 rfl rfl 10 (by decide) (k_580 hT) (fun _ h9 => h9) rfl d_Mo_next_154 ?_
                      refine lv_iload hx hb d_Mo_next_157 (lv_at hl 0 rfl) ?_
                      refine lv_dup2_11 hx hb d_Mo_next_159 rfl rfl ?_
                      refine va_iald (f := (mJ σ 5)) hx hb hK hP 11 0 rfl rfl (at8 h) d_Mo_next_160 ?_
                      refine lv_iconst (v := 1) hx hb d_Mo_next_161 (by decide) ?_
                      refine lv_iadd hx hb d_Mo_next_162 ?_
                      refine va_iast (f := (mJ σ 5)) hx hb hK hP hD hS 11 0 rfl rfl (at8 h) d_Mo_next_163 (fun H locs hP hD hS => ?_)
                      have hP : va_P (gD G) classes (mw G (tJ (tI (tI σ 6 1) 10 ((mI σ 10) + 1)) 5 (upd (mJ σ 5) (i - i / 8 * 8).toNatClampNeg (((mJ σ 5) (i - i / 8 * 8).toNatClampNeg) + 1)))) H := hP
                      have hD : va_D (gA G) (mw G (tJ (tI (tI σ 6 1) 10 ((mI σ 10) + 1)) 5 (upd (mJ σ 5) (i - i / 8 * 8).toNatClampNeg (((mJ σ 5) (i - i / 8 * 8).toNatClampNeg) + 1)))) := g.d
                      refine lv_iload_n hx hb d_Mo_next_164 rfl (lv_at hl 1 rfl) ?_
                      refine lv_if_ne (tgt := 189) hx hb d_Mo_next_165 (by decide) (fun c165 => ?_) (fun c165 => ?_)
                      · refine lv_iload_n hx hb d_Mo_next_189 rfl (lv_at hl 1 rfl) ?_
                        refine lv_if_eq (tgt := 205) hx hb d_Mo_next_190 (by decide) (fun c190 => ?_) (fun c190 => ?_)
                        · exact absurd c190 (by decide)
                        · refine lv_aload_n hx hb d_Mo_next_193 rfl (lv_at hl 3 rfl) ?_
                          refine va_get (D := gD G) (ci := 7) (v := .ref (gad G 25)) (C := R_Mo) (T := F_Mo) (N := 29) hx hb (wl_Mo hT) (fun _ h9 => h9) hown hK hP 0 rfl rfl 4 (by decide) (k_574 hT) (fun _ h9 => h9) rfl d_Mo_next_194 ?_
                          refine lv_iload_n hx hb d_Mo_next_197 rfl (lv_at hl 4 rfl) ?_
                          refine va_iald (f := (mJ σ 10)) hx hb hK hP 5 0 rfl rfl (h) d_Mo_next_198 ?_
                          refine cx_S (n := 1) (As := [.int ((mJ σ 10) i.toNatClampNeg)]) (rest := []) ⟨hx, hb, hml, hown, fun _ h9 => nomatch h9⟩ (K_Mo_modulo g (tJ (tI (tI σ 6 1) 10 ((mI σ 10) + 1)) 5 (upd (mJ σ 5) (i - i / 8 * 8).toNatClampNeg (((mJ σ 5) (i - i / 8 * 8).toNatClampNeg) + 1))) ((mJ σ 10) i.toNatClampNeg) ) (k_740 hT) (k_741 hT) (k_742 hT) (k_9 hT) rfl (by decide +kernel) (hc.at g hS hP) ⟨by decide, by decide⟩ ⟨by decide, by decide⟩ hl.1 (Nat.le_of_ble_eq_true rfl) d_Mo_next_199 (fun _ h9 => h9) hS (fun _ _ _ _ _ _ _ h9 => h9.elim) (fun v t H locs ht9 hRt hz hk hS => ?_)
                          obtain ⟨r, u, rfl, ⟨er, eu⟩, hP⟩ := hRt
                          subst er
                          rw [eu, ht9] at hP
                          have hD : va_D (gA G) (mw G (tJ (tI (tI σ 6 1) 10 ((mI σ 10) + 1)) 5 (upd (mJ σ 5) (i - i / 8 * 8).toNatClampNeg (((mJ σ 5) (i - i / 8 * 8).toNatClampNeg) + 1)))) := g.d
                          refine W.eq (g2 := F0 m 202 ls [.int (mdl ((mJ σ 10) i.toNatClampNeg))]) rfl ?_
                          refine lv_goto (tgt := 211) hx hb d_Mo_next_202 (by decide) ?_
                          exact mend_i (u := (tJ (tI (tI σ 6 1) 10 ((mI σ 10) + 1)) 5 (upd (mJ σ 5) (i - i / 8 * 8).toNatClampNeg (((mJ σ 5) (i - i / 8 * 8).toNatClampNeg) + 1)))) hx hb hr hlocks hS hP d_Mo_next_211 (⟨by unfold nxF jmM mq; simp [ix, c10, c26, c58, c69, c101, c150], by unfold nxF nx2 nx1 wrM jmM mq; simp [ix, b2i, mJ_tI, mI_tI, c10, c26, c58, c69, c101, c150]⟩)
                      · exact absurd c165 (by decide)
            · refine lv_iconst (v := 1) hx hb d_Mo_next_104 (by decide) ?_
              refine lv_goto (tgt := 109) hx hb d_Mo_next_105 (by decide) ?_
              refine lv_iload_n hx hb d_Mo_next_109 rfl (lv_at hl 1 rfl) ?_
              refine lv_icmp_eq (tgt := 117) hx hb d_Mo_next_110 (by decide) (fun c110 => ?_) (fun c110 => ?_)
              · refine lv_iconst (v := 0) hx hb d_Mo_next_117 (by decide) ?_
                refine va_put (D := gD G) (ci := 7) (v := .int 0) (ty := .boolean) (C := R_Mo) (T := F_Mo) (N := 29) hx hb (wl_Mo hT) (fun _ h9 => h9) fy_Mo fy_Mo_ok fn_Mo hown hK hP hD hS 0 rfl rfl 28 (by decide) (k_598 hT) (fun _ h9 => h9) rfl (by decide +kernel) rfl rfl (Nat.le_of_ble_eq_true rfl) d_Mo_next_118 (fun H locs hP hD hS => ?_)
                have hP : va_P (gD G) classes (mw G (tI σ 6 0)) H := hP
                have hD : va_D (gA G) (mw G (tI σ 6 0)) := g.d
                refine lv_aload_n hx hb d_Mo_next_121 rfl (lv_at hl 3 rfl) ?_
                refine va_get (D := gD G) (ci := 7) (v := .int 0) (C := R_Mo) (T := F_Mo) (N := 29) hx hb (wl_Mo hT) (fun _ h9 => h9) hown hK hP 0 rfl rfl 28 (by decide) (k_598 hT) (fun _ h9 => h9) rfl d_Mo_next_122 ?_
                refine lv_if_eq (tgt := 138) hx hb d_Mo_next_125 (by decide) (fun c125 => ?_) (fun c125 => ?_)
                · refine lv_iload_n hx hb d_Mo_next_138 rfl (lv_at hl 1 rfl) ?_
                  refine lv_if_eq (tgt := 164) hx hb d_Mo_next_139 (by decide) (fun c139 => ?_) (fun c139 => ?_)
                  · exact absurd c139 (by decide)
                  · refine lv_aload_n hx hb d_Mo_next_142 rfl (lv_at hl 3 rfl) ?_
                    refine va_get (D := gD G) (ci := 7) (v := .ref (gad G 31)) (C := R_Mo) (T := F_Mo) (N := 29) hx hb (wl_Mo hT) (fun _ h9 => h9) hown hK hP 0 rfl rfl 10 (by decide) (k_580 hT) (fun _ h9 => h9) rfl d_Mo_next_143 ?_
                    refine lv_iload hx hb d_Mo_next_146 (lv_at hl 0 rfl) ?_
                    refine va_iald (f := (mJ σ 5)) hx hb hK hP 11 0 rfl rfl (at8 h) d_Mo_next_148 ?_
                    refine lv_iconst (v := 3) hx hb d_Mo_next_149 (by decide) ?_
                    refine lv_icmp_ge (tgt := 164) hx hb d_Mo_next_150 (by decide) (fun c150 => ?_) (fun c150 => ?_)
                    · refine lv_iload_n hx hb d_Mo_next_164 rfl (lv_at hl 1 rfl) ?_
                      refine lv_if_ne (tgt := 189) hx hb d_Mo_next_165 (by decide) (fun c165 => ?_) (fun c165 => ?_)
                      · refine lv_iload_n hx hb d_Mo_next_189 rfl (lv_at hl 1 rfl) ?_
                        refine lv_if_eq (tgt := 205) hx hb d_Mo_next_190 (by decide) (fun c190 => ?_) (fun c190 => ?_)
                        · exact absurd c190 (by decide)
                        · refine lv_aload_n hx hb d_Mo_next_193 rfl (lv_at hl 3 rfl) ?_
                          refine va_get (D := gD G) (ci := 7) (v := .ref (gad G 25)) (C := R_Mo) (T := F_Mo) (N := 29) hx hb (wl_Mo hT) (fun _ h9 => h9) hown hK hP 0 rfl rfl 4 (by decide) (k_574 hT) (fun _ h9 => h9) rfl d_Mo_next_194 ?_
                          refine lv_iload_n hx hb d_Mo_next_197 rfl (lv_at hl 4 rfl) ?_
                          refine va_iald (f := (mJ σ 10)) hx hb hK hP 5 0 rfl rfl (h) d_Mo_next_198 ?_
                          refine cx_S (n := 1) (As := [.int ((mJ σ 10) i.toNatClampNeg)]) (rest := []) ⟨hx, hb, hml, hown, fun _ h9 => nomatch h9⟩ (K_Mo_modulo g (tI σ 6 0) ((mJ σ 10) i.toNatClampNeg) ) (k_740 hT) (k_741 hT) (k_742 hT) (k_9 hT) rfl (by decide +kernel) (hc.at g hS hP) ⟨by decide, by decide⟩ ⟨by decide, by decide⟩ hl.1 (Nat.le_of_ble_eq_true rfl) d_Mo_next_199 (fun _ h9 => h9) hS (fun _ _ _ _ _ _ _ h9 => h9.elim) (fun v t H locs ht9 hRt hz hk hS => ?_)
                          obtain ⟨r, u, rfl, ⟨er, eu⟩, hP⟩ := hRt
                          subst er
                          rw [eu, ht9] at hP
                          have hD : va_D (gA G) (mw G (tI σ 6 0)) := g.d
                          refine W.eq (g2 := F0 m 202 ls [.int (mdl ((mJ σ 10) i.toNatClampNeg))]) rfl ?_
                          refine lv_goto (tgt := 211) hx hb d_Mo_next_202 (by decide) ?_
                          exact mend_i (u := (tI σ 6 0)) hx hb hr hlocks hS hP d_Mo_next_211 (⟨by unfold nxF jmM mq; simp [ix, c10, c26, c58, c69, c101, c150], by unfold nxF nx2 nx1 wrM jmM mq; simp [ix, b2i, mJ_tI, mI_tI, c10, c26, c58, c69, c101, c150]⟩)
                      · exact absurd c165 (by decide)
                    · refine lv_aload_n hx hb d_Mo_next_153 rfl (lv_at hl 3 rfl) ?_
                      refine va_get (D := gD G) (ci := 7) (v := .ref (gad G 31)) (C := R_Mo) (T := F_Mo) (N := 29) hx hb (wl_Mo hT) (fun _ h9 => h9) hown hK hP 0 rfl rfl 10 (by decide) (k_580 hT) (fun _ h9 => h9) rfl d_Mo_next_154 ?_
                      refine lv_iload hx hb d_Mo_next_157 (lv_at hl 0 rfl) ?_
                      refine lv_dup2_11 hx hb d_Mo_next_159 rfl rfl ?_
                      refine va_iald (f := (mJ σ 5)) hx hb hK hP 11 0 rfl rfl (at8 h) d_Mo_next_160 ?_
                      refine lv_iconst (v := 1) hx hb d_Mo_next_161 (by decide) ?_
                      refine lv_iadd hx hb d_Mo_next_162 ?_
                      refine va_iast (f := (mJ σ 5)) hx hb hK hP hD hS 11 0 rfl rfl (at8 h) d_Mo_next_163 (fun H locs hP hD hS => ?_)
                      have hP : va_P (gD G) classes (mw G (tJ (tI σ 6 0) 5 (upd (mJ σ 5) (i - i / 8 * 8).toNatClampNeg (((mJ σ 5) (i - i / 8 * 8).toNatClampNeg) + 1)))) H := hP
                      have hD : va_D (gA G) (mw G (tJ (tI σ 6 0) 5 (upd (mJ σ 5) (i - i / 8 * 8).toNatClampNeg (((mJ σ 5) (i - i / 8 * 8).toNatClampNeg) + 1)))) := g.d
                      refine lv_iload_n hx hb d_Mo_next_164 rfl (lv_at hl 1 rfl) ?_
                      refine lv_if_ne (tgt := 189) hx hb d_Mo_next_165 (by decide) (fun c165 => ?_) (fun c165 => ?_)
                      · refine lv_iload_n hx hb d_Mo_next_189 rfl (lv_at hl 1 rfl) ?_
                        refine lv_if_eq (tgt := 205) hx hb d_Mo_next_190 (by decide) (fun c190 => ?_) (fun c190 => ?_)
                        · exact absurd c190 (by decide)
                        · refine lv_aload_n hx hb d_Mo_next_193 rfl (lv_at hl 3 rfl) ?_
                          refine va_get (D := gD G) (ci := 7) (v := .ref (gad G 25)) (C := R_Mo) (T := F_Mo) (N := 29) hx hb (wl_Mo hT) (fun _ h9 => h9) hown hK hP 0 rfl rfl 4 (by decide) (k_574 hT) (fun _ h9 => h9) rfl d_Mo_next_194 ?_
                          refine lv_iload_n hx hb d_Mo_next_197 rfl (lv_at hl 4 rfl) ?_
                          refine va_iald (f := (mJ σ 10)) hx hb hK hP 5 0 rfl rfl (h) d_Mo_next_198 ?_
                          refine cx_S (n := 1) (As := [.int ((mJ σ 10) i.toNatClampNeg)]) (rest := []) ⟨hx, hb, hml, hown, fun _ h9 => nomatch h9⟩ (K_Mo_modulo g (tJ (tI σ 6 0) 5 (upd (mJ σ 5) (i - i / 8 * 8).toNatClampNeg (((mJ σ 5) (i - i / 8 * 8).toNatClampNeg) + 1))) ((mJ σ 10) i.toNatClampNeg) ) (k_740 hT) (k_741 hT) (k_742 hT) (k_9 hT) rfl (by decide +kernel) (hc.at g hS hP) ⟨by decide, by decide⟩ ⟨by decide, by decide⟩ hl.1 (Nat.le_of_ble_eq_true rfl) d_Mo_next_199 (fun _ h9 => h9) hS (fun _ _ _ _ _ _ _ h9 => h9.elim) (fun v t H locs ht9 hRt hz hk hS => ?_)
                          obtain ⟨r, u, rfl, ⟨er, eu⟩, hP⟩ := hRt
                          subst er
                          rw [eu, ht9] at hP
                          have hD : va_D (gA G) (mw G (tJ (tI σ 6 0) 5 (upd (mJ σ 5) (i - i / 8 * 8).toNatClampNeg (((mJ σ 5) (i - i / 8 * 8).toNatClampNeg) + 1)))) := g.d
                          refine W.eq (g2 := F0 m 202 ls [.int (mdl ((mJ σ 10) i.toNatClampNeg))]) rfl ?_
                          refine lv_goto (tgt := 211) hx hb d_Mo_next_202 (by decide) ?_
                          exact mend_i (u := (tJ (tI σ 6 0) 5 (upd (mJ σ 5) (i - i / 8 * 8).toNatClampNeg (((mJ σ 5) (i - i / 8 * 8).toNatClampNeg) + 1)))) hx hb hr hlocks hS hP d_Mo_next_211 (⟨by unfold nxF jmM mq; simp [ix, c10, c26, c58, c69, c101, c150], by unfold nxF nx2 nx1 wrM jmM mq; simp [ix, b2i, mJ_tI, mI_tI, c10, c26, c58, c69, c101, c150]⟩)
                      · exact absurd c165 (by decide)
                · exact absurd rfl c125
              · exact absurd (by decide) c110
        · refine lv_iconst (v := 1) hx hb d_Mo_next_72 (by decide) ?_
          refine lv_goto (tgt := 77) hx hb d_Mo_next_73 (by decide) ?_
          refine lv_icmp_ne (tgt := 84) hx hb d_Mo_next_77 (by decide) (fun c77 => ?_) (fun c77 => ?_)
          · refine lv_iconst (v := 0) hx hb d_Mo_next_84 (by decide) ?_
            refine lv_istore_n (lv' := [(3, .int 0), (2, .int ((mJ σ 6) i.toNatClampNeg)), (0, .ref (gad G 20)), (1, .int i)]) hx hb d_Mo_next_85 rfl hl (by decide) rfl (fun ls hl => ?_)
            refine lv_iload_n hx hb d_Mo_next_86 rfl (lv_at hl 3 rfl) ?_
            refine lv_bipush (v := 8) hx hb d_Mo_next_87 (by decide) ?_
            refine lv_irem hx hb d_Mo_next_89 (by decide) ?_
            refine lv_istore (lv' := [(4, .int (i - i / 8 * 8)), (3, .int 0), (2, .int ((mJ σ 6) i.toNatClampNeg)), (0, .ref (gad G 20)), (1, .int i)]) hx hb d_Mo_next_90 hl (by decide) rfl (fun ls hl => ?_)
            refine lv_aload_n hx hb d_Mo_next_92 rfl (lv_at hl 3 rfl) ?_
            refine lv_aload_n hx hb d_Mo_next_93 rfl (lv_at hl 3 rfl) ?_
            refine va_get (D := gD G) (ci := 7) (v := .ref (gad G 31)) (C := R_Mo) (T := F_Mo) (N := 29) hx hb (wl_Mo hT) (fun _ h9 => h9) hown hK hP 0 rfl rfl 10 (by decide) (k_580 hT) (fun _ h9 => h9) rfl d_Mo_next_94 ?_
            refine lv_iload hx hb d_Mo_next_97 (lv_at hl 0 rfl) ?_
            refine va_iald (f := (mJ σ 5)) hx hb hK hP 11 0 rfl rfl (at8 h) d_Mo_next_99 ?_
            refine lv_iconst (v := 1) hx hb d_Mo_next_100 (by decide) ?_
            refine lv_icmp_le (tgt := 108) hx hb d_Mo_next_101 (by decide) (fun c101 => ?_) (fun c101 => ?_)
            · refine lv_iconst (v := 0) hx hb d_Mo_next_108 (by decide) ?_
              refine lv_iload_n hx hb d_Mo_next_109 rfl (lv_at hl 1 rfl) ?_
              refine lv_icmp_eq (tgt := 117) hx hb d_Mo_next_110 (by decide) (fun c110 => ?_) (fun c110 => ?_)
              · refine lv_iconst (v := 0) hx hb d_Mo_next_117 (by decide) ?_
                refine va_put (D := gD G) (ci := 7) (v := .int 0) (ty := .boolean) (C := R_Mo) (T := F_Mo) (N := 29) hx hb (wl_Mo hT) (fun _ h9 => h9) fy_Mo fy_Mo_ok fn_Mo hown hK hP hD hS 0 rfl rfl 28 (by decide) (k_598 hT) (fun _ h9 => h9) rfl (by decide +kernel) rfl rfl (Nat.le_of_ble_eq_true rfl) d_Mo_next_118 (fun H locs hP hD hS => ?_)
                have hP : va_P (gD G) classes (mw G (tI σ 6 0)) H := hP
                have hD : va_D (gA G) (mw G (tI σ 6 0)) := g.d
                refine lv_aload_n hx hb d_Mo_next_121 rfl (lv_at hl 3 rfl) ?_
                refine va_get (D := gD G) (ci := 7) (v := .int 0) (C := R_Mo) (T := F_Mo) (N := 29) hx hb (wl_Mo hT) (fun _ h9 => h9) hown hK hP 0 rfl rfl 28 (by decide) (k_598 hT) (fun _ h9 => h9) rfl d_Mo_next_122 ?_
                refine lv_if_eq (tgt := 138) hx hb d_Mo_next_125 (by decide) (fun c125 => ?_) (fun c125 => ?_)
                · refine lv_iload_n hx hb d_Mo_next_138 rfl (lv_at hl 1 rfl) ?_
                  refine lv_if_eq (tgt := 164) hx hb d_Mo_next_139 (by decide) (fun c139 => ?_) (fun c139 => ?_)
                  · refine lv_iload_n hx hb d_Mo_next_164 rfl (lv_at hl 1 rfl) ?_
                    refine lv_if_ne (tgt := 189) hx hb d_Mo_next_165 (by decide) (fun c165 => ?_) (fun c165 => ?_)
                    · exact absurd rfl c165
                    · refine lv_aload_n hx hb d_Mo_next_168 rfl (lv_at hl 3 rfl) ?_
                      refine va_get (D := gD G) (ci := 7) (v := .ref (gad G 31)) (C := R_Mo) (T := F_Mo) (N := 29) hx hb (wl_Mo hT) (fun _ h9 => h9) hown hK hP 0 rfl rfl 10 (by decide) (k_580 hT) (fun _ h9 => h9) rfl d_Mo_next_169 ?_
                      refine lv_iload hx hb d_Mo_next_172 (lv_at hl 0 rfl) ?_
                      refine va_iald (f := (mJ σ 5)) hx hb hK hP 11 0 rfl rfl (at8 h) d_Mo_next_174 ?_
                      refine lv_if_le (tgt := 189) hx hb d_Mo_next_175 (by decide) (fun c175 => ?_) (fun c175 => ?_)
                      · refine lv_iload_n hx hb d_Mo_next_189 rfl (lv_at hl 1 rfl) ?_
                        refine lv_if_eq (tgt := 205) hx hb d_Mo_next_190 (by decide) (fun c190 => ?_) (fun c190 => ?_)
                        · refine lv_iload_n hx hb d_Mo_next_205 rfl (lv_at hl 4 rfl) ?_
                          refine lv_iconst (v := 1) hx hb d_Mo_next_206 (by decide) ?_
                          refine lv_iadd hx hb d_Mo_next_207 ?_
                          refine lv_bipush (v := 24) hx hb d_Mo_next_208 (by decide) ?_
                          refine lv_irem hx hb d_Mo_next_210 (by decide) ?_
                          exact mend_i (u := (tI σ 6 0)) hx hb hr hlocks hS hP d_Mo_next_211 (⟨by unfold nxF jmM mq; simp [ix, c10, c26, c58, eq_true c69, c101, c175], by unfold nxF nx2 nx1 wrM jmM mq; simp [ix, b2i, mJ_tI, mI_tI, c10, c26, c58, eq_true c69, c101, c175]⟩)
                        · exact absurd rfl c190
                      · refine lv_aload_n hx hb d_Mo_next_178 rfl (lv_at hl 3 rfl) ?_
                        refine va_get (D := gD G) (ci := 7) (v := .ref (gad G 31)) (C := R_Mo) (T := F_Mo) (N := 29) hx hb (wl_Mo hT) (fun _ h9 => h9) hown hK hP 0 rfl rfl 10 (by decide) (k_580 hT) (fun _ h9 => h9) rfl d_Mo_next_179 ?_
                        refine lv_iload hx hb d_Mo_next_182 (lv_at hl 0 rfl) ?_
                        refine lv_dup2_11 hx hb d_Mo_next_184 rfl rfl ?_
                        refine va_iald (f := (mJ σ 5)) hx hb hK hP 11 0 rfl rfl (at8 h) d_Mo_next_185 ?_
                        refine lv_iconst (v := 1) hx hb d_Mo_next_186 (by decide) ?_
                        refine lv_isub hx hb d_Mo_next_187 ?_
                        refine va_iast (f := (mJ σ 5)) hx hb hK hP hD hS 11 0 rfl rfl (at8 h) d_Mo_next_188 (fun H locs hP hD hS => ?_)
                        have hP : va_P (gD G) classes (mw G (tJ (tI σ 6 0) 5 (upd (mJ σ 5) (i - i / 8 * 8).toNatClampNeg (((mJ σ 5) (i - i / 8 * 8).toNatClampNeg) - 1)))) H := hP
                        have hD : va_D (gA G) (mw G (tJ (tI σ 6 0) 5 (upd (mJ σ 5) (i - i / 8 * 8).toNatClampNeg (((mJ σ 5) (i - i / 8 * 8).toNatClampNeg) - 1)))) := g.d
                        refine lv_iload_n hx hb d_Mo_next_189 rfl (lv_at hl 1 rfl) ?_
                        refine lv_if_eq (tgt := 205) hx hb d_Mo_next_190 (by decide) (fun c190 => ?_) (fun c190 => ?_)
                        · refine lv_iload_n hx hb d_Mo_next_205 rfl (lv_at hl 4 rfl) ?_
                          refine lv_iconst (v := 1) hx hb d_Mo_next_206 (by decide) ?_
                          refine lv_iadd hx hb d_Mo_next_207 ?_
                          refine lv_bipush (v := 24) hx hb d_Mo_next_208 (by decide) ?_
                          refine lv_irem hx hb d_Mo_next_210 (by decide) ?_
                          exact mend_i (u := (tJ (tI σ 6 0) 5 (upd (mJ σ 5) (i - i / 8 * 8).toNatClampNeg (((mJ σ 5) (i - i / 8 * 8).toNatClampNeg) - 1)))) hx hb hr hlocks hS hP d_Mo_next_211 (⟨by unfold nxF jmM mq; simp [ix, c10, c26, c58, eq_true c69, c101, c175], by unfold nxF nx2 nx1 wrM jmM mq; simp [ix, b2i, mJ_tI, mI_tI, c10, c26, c58, eq_true c69, c101, c175]⟩)
                        · exact absurd rfl c190
                  · exact absurd rfl c139
                · exact absurd rfl c125
              · exact absurd (by decide) c110
            · refine lv_iconst (v := 1) hx hb d_Mo_next_104 (by decide) ?_
              refine lv_goto (tgt := 109) hx hb d_Mo_next_105 (by decide) ?_
              refine lv_iload_n hx hb d_Mo_next_109 rfl (lv_at hl 1 rfl) ?_
              refine lv_icmp_eq (tgt := 117) hx hb d_Mo_next_110 (by decide) (fun c110 => ?_) (fun c110 => ?_)
              · exact absurd c110 (by decide)
              · refine lv_iconst (v := 1) hx hb d_Mo_next_113 (by decide) ?_
                refine lv_goto (tgt := 118) hx hb d_Mo_next_114 (by decide) ?_
                refine va_put (D := gD G) (ci := 7) (v := .int 1) (ty := .boolean) (C := R_Mo) (T := F_Mo) (N := 29) hx hb (wl_Mo hT) (fun _ h9 => h9) fy_Mo fy_Mo_ok fn_Mo hown hK hP hD hS 0 rfl rfl 28 (by decide) (k_598 hT) (fun _ h9 => h9) rfl (by decide +kernel) rfl rfl (Nat.le_of_ble_eq_true rfl) d_Mo_next_118 (fun H locs hP hD hS => ?_)
                have hP : va_P (gD G) classes (mw G (tI σ 6 1)) H := hP
                have hD : va_D (gA G) (mw G (tI σ 6 1)) := g.d
                refine lv_aload_n hx hb d_Mo_next_121 rfl (lv_at hl 3 rfl) ?_
                refine va_get (D := gD G) (ci := 7) (v := .int 1) (C := R_Mo) (T := F_Mo) (N := 29) hx hb (wl_Mo hT) (fun _ h9 => h9) hown hK hP 0 rfl rfl 28 (by decide) (k_598 hT) (fun _ h9 => h9) rfl d_Mo_next_122 ?_
                refine lv_if_eq (tgt := 138) hx hb d_Mo_next_125 (by decide) (fun c125 => ?_) (fun c125 => ?_)
                · exact absurd c125 (by decide)
                · refine lv_aload_n hx hb d_Mo_next_128 rfl (lv_at hl 3 rfl) ?_
                  refine lv_dup hx hb d_Mo_next_129 rfl ?_
                  refine va_get (D := gD G) (ci := 7) (v := .int (mI σ 10)) (C := R_Mo) (T := F_Mo) (N := 29) hx hb (wl_Mo hT) (fun _ h9 => h9) hown hK hP 0 rfl rfl 22 (by decide) (k_592 hT) (fun _ h9 => h9) rfl d_Mo_next_130 ?_
                  refine lv_iconst (v := 1) hx hb d_Mo_next_133 (by decide) ?_
                  refine lv_iadd hx hb d_Mo_next_134 ?_
                  refine va_put (D := gD G) (ci := 7) (v := .int ((mI σ 10) + 1)) (ty := .int) (C := R_Mo) (T := F_Mo) (N := 29) hx hb (wl_Mo hT) (fun _ h9 => h9) fy_Mo fy_Mo_ok fn_Mo hown hK hP hD hS 0 rfl rfl 22 (by decide) (k_592 hT) (fun _ h9 => h9) rfl (by decide +kernel) rfl rfl (Nat.le_of_ble_eq_true rfl) d_Mo_next_135 (fun H locs hP hD hS => ?_)
                  have hP : va_P (gD G) classes (mw G (tI (tI σ 6 1) 10 ((mI σ 10) + 1))) H := hP
                  have hD : va_D (gA G) (mw G (tI (tI σ 6 1) 10 ((mI σ 10) + 1))) := g.d
                  refine lv_iload_n hx hb d_Mo_next_138 rfl (lv_at hl 1 rfl) ?_
                  refine lv_if_eq (tgt := 164) hx hb d_Mo_next_139 (by decide) (fun c139 => ?_) (fun c139 => ?_)
                  · refine lv_iload_n hx hb d_Mo_next_164 rfl (lv_at hl 1 rfl) ?_
                    refine lv_if_ne (tgt := 189) hx hb d_Mo_next_165 (by decide) (fun c165 => ?_) (fun c165 => ?_)
                    · exact absurd rfl c165
                    · refine lv_aload_n hx hb d_Mo_next_168 rfl (lv_at hl 3 rfl) ?_
                      refine va_get (D := gD G) (ci := 7) (v := .ref (gad G 31)) (C := R_Mo) (T := F_Mo) (N := 29) hx hb (wl_Mo hT) (fun _ h9 => h9) hown hK hP 0 rfl rfl 10 (by decide) (k_580 hT) (fun _ h9 => h9) rfl d_Mo_next_169 ?_
                      refine lv_iload hx hb d_Mo_next_172 (lv_at hl 0 rfl) ?_
                      refine va_iald (f := (mJ σ 5)) hx hb hK hP 11 0 rfl rfl (at8 h) d_Mo_next_174 ?_
                      refine lv_if_le (tgt := 189) hx hb d_Mo_next_175 (by decide) (fun c175 => ?_) (fun c175 => ?_)
                      · refine lv_iload_n hx hb d_Mo_next_189 rfl (lv_at hl 1 rfl) ?_
                        refine lv_if_eq (tgt := 205) hx hb d_Mo_next_190 (by decide) (fun c190 => ?_) (fun c190 => ?_)
                        · refine lv_iload_n hx hb d_Mo_next_205 rfl (lv_at hl 4 rfl) ?_
                          refine lv_iconst (v := 1) hx hb d_Mo_next_206 (by decide) ?_
                          refine lv_iadd hx hb d_Mo_next_207 ?_
                          refine lv_bipush (v := 24) hx hb d_Mo_next_208 (by decide) ?_
                          refine lv_irem hx hb d_Mo_next_210 (by decide) ?_
                          exact mend_i (u := (tI (tI σ 6 1) 10 ((mI σ 10) + 1))) hx hb hr hlocks hS hP d_Mo_next_211 (⟨by unfold nxF jmM mq; simp [ix, c10, c26, c58, eq_true c69, c101, c175], by unfold nxF nx2 nx1 wrM jmM mq; simp [ix, b2i, mJ_tI, mI_tI, c10, c26, c58, eq_true c69, c101, c175]⟩)
                        · exact absurd rfl c190
                      · refine lv_aload_n hx hb d_Mo_next_178 rfl (lv_at hl 3 rfl) ?_
                        refine va_get (D := gD G) (ci := 7) (v := .ref (gad G 31)) (C := R_Mo) (T := F_Mo) (N := 29) hx hb (wl_Mo hT) (fun _ h9 => h9) hown hK hP 0 rfl rfl 10 (by decide) (k_580 hT) (fun _ h9 => h9) rfl d_Mo_next_179 ?_
                        refine lv_iload hx hb d_Mo_next_182 (lv_at hl 0 rfl) ?_
                        refine lv_dup2_11 hx hb d_Mo_next_184 rfl rfl ?_
                        refine va_iald (f := (mJ σ 5)) hx hb hK hP 11 0 rfl rfl (at8 h) d_Mo_next_185 ?_
                        refine lv_iconst (v := 1) hx hb d_Mo_next_186 (by decide) ?_
                        refine lv_isub hx hb d_Mo_next_187 ?_
                        refine va_iast (f := (mJ σ 5)) hx hb hK hP hD hS 11 0 rfl rfl (at8 h) d_Mo_next_188 (fun H locs hP hD hS => ?_)
                        have hP : va_P (gD G) classes (mw G (tJ (tI (tI σ 6 1) 10 ((mI σ 10) + 1)) 5 (upd (mJ σ 5) (i - i / 8 * 8).toNatClampNeg (((mJ σ 5) (i - i / 8 * 8).toNatClampNeg) - 1)))) H := hP
                        have hD : va_D (gA G) (mw G (tJ (tI (tI σ 6 1) 10 ((mI σ 10) + 1)) 5 (upd (mJ σ 5) (i - i / 8 * 8).toNatClampNeg (((mJ σ 5) (i - i / 8 * 8).toNatClampNeg) - 1)))) := g.d
                        refine lv_iload_n hx hb d_Mo_next_189 rfl (lv_at hl 1 rfl) ?_
                        refine lv_if_eq (tgt := 205) hx hb d_Mo_next_190 (by decide) (fun c190 => ?_) (fun c190 => ?_)
                        · refine lv_iload_n hx hb d_Mo_next_205 rfl (lv_at hl 4 rfl) ?_
                          refine lv_iconst (v := 1) hx hb d_Mo_next_206 (by decide) ?_
                          refine lv_iadd hx hb d_Mo_next_207 ?_
                          refine lv_bipush (v := 24) hx hb d_Mo_next_208 (by decide) ?_
                          refine lv_irem hx hb d_Mo_next_210 (by decide) ?_
                          exact mend_i (u := (tJ (tI (tI σ 6 1) 10 ((mI σ 10) + 1)) 5 (upd (mJ σ 5) (i - i / 8 * 8).toNatClampNeg (((mJ σ 5) (i - i / 8 * 8).toNatClampNeg) - 1)))) hx hb hr hlocks hS hP d_Mo_next_211 (⟨by unfold nxF jmM mq; simp [ix, c10, c26, c58, eq_true c69, c101, c175], by unfold nxF nx2 nx1 wrM jmM mq; simp [ix, b2i, mJ_tI, mI_tI, c10, c26, c58, eq_true c69, c101, c175]⟩)
                        · exact absurd rfl c190
                  · exact absurd rfl c139
          · exact absurd c77 (by decide)
      · refine lv_iconst (v := 1) hx hb d_Mo_next_61 (by decide) ?_
        refine lv_goto (tgt := 66) hx hb d_Mo_next_62 (by decide) ?_
        refine lv_iload_n hx hb d_Mo_next_66 rfl (lv_at hl 0 rfl) ?_
        refine lv_bipush (v := 17) hx hb d_Mo_next_67 (by decide) ?_
        refine lv_icmp_ne (tgt := 76) hx hb d_Mo_next_69 (by decide) (fun c69 => ?_) (fun c69 => ?_)
        · refine lv_iconst (v := 0) hx hb d_Mo_next_76 (by decide) ?_
          refine lv_icmp_ne (tgt := 84) hx hb d_Mo_next_77 (by decide) (fun c77 => ?_) (fun c77 => ?_)
          · refine lv_iconst (v := 0) hx hb d_Mo_next_84 (by decide) ?_
            refine lv_istore_n (lv' := [(3, .int 0), (2, .int ((mJ σ 6) i.toNatClampNeg)), (0, .ref (gad G 20)), (1, .int i)]) hx hb d_Mo_next_85 rfl hl (by decide) rfl (fun ls hl => ?_)
            refine lv_iload_n hx hb d_Mo_next_86 rfl (lv_at hl 3 rfl) ?_
            refine lv_bipush (v := 8) hx hb d_Mo_next_87 (by decide) ?_
            refine lv_irem hx hb d_Mo_next_89 (by decide) ?_
            refine lv_istore (lv' := [(4, .int (i - i / 8 * 8)), (3, .int 0), (2, .int ((mJ σ 6) i.toNatClampNeg)), (0, .ref (gad G 20)), (1, .int i)]) hx hb d_Mo_next_90 hl (by decide) rfl (fun ls hl => ?_)
            refine lv_aload_n hx hb d_Mo_next_92 rfl (lv_at hl 3 rfl) ?_
            refine lv_aload_n hx hb d_Mo_next_93 rfl (lv_at hl 3 rfl) ?_
            refine va_get (D := gD G) (ci := 7) (v := .ref (gad G 31)) (C := R_Mo) (T := F_Mo) (N := 29) hx hb (wl_Mo hT) (fun _ h9 => h9) hown hK hP 0 rfl rfl 10 (by decide) (k_580 hT) (fun _ h9 => h9) rfl d_Mo_next_94 ?_
            refine lv_iload hx hb d_Mo_next_97 (lv_at hl 0 rfl) ?_
            refine va_iald (f := (mJ σ 5)) hx hb hK hP 11 0 rfl rfl (at8 h) d_Mo_next_99 ?_
            refine lv_iconst (v := 1) hx hb d_Mo_next_100 (by decide) ?_
            refine lv_icmp_le (tgt := 108) hx hb d_Mo_next_101 (by decide) (fun c101 => ?_) (fun c101 => ?_)
            · refine lv_iconst (v := 0) hx hb d_Mo_next_108 (by decide) ?_
              refine lv_iload_n hx hb d_Mo_next_109 rfl (lv_at hl 1 rfl) ?_
              refine lv_icmp_eq (tgt := 117) hx hb d_Mo_next_110 (by decide) (fun c110 => ?_) (fun c110 => ?_)
              · refine lv_iconst (v := 0) hx hb d_Mo_next_117 (by decide) ?_
                refine va_put (D := gD G) (ci := 7) (v := .int 0) (ty := .boolean) (C := R_Mo) (T := F_Mo) (N := 29) hx hb (wl_Mo hT) (fun _ h9 => h9) fy_Mo fy_Mo_ok fn_Mo hown hK hP hD hS 0 rfl rfl 28 (by decide) (k_598 hT) (fun _ h9 => h9) rfl (by decide +kernel) rfl rfl (Nat.le_of_ble_eq_true rfl) d_Mo_next_118 (fun H locs hP hD hS => ?_)
                have hP : va_P (gD G) classes (mw G (tI σ 6 0)) H := hP
                have hD : va_D (gA G) (mw G (tI σ 6 0)) := g.d
                refine lv_aload_n hx hb d_Mo_next_121 rfl (lv_at hl 3 rfl) ?_
                refine va_get (D := gD G) (ci := 7) (v := .int 0) (C := R_Mo) (T := F_Mo) (N := 29) hx hb (wl_Mo hT) (fun _ h9 => h9) hown hK hP 0 rfl rfl 28 (by decide) (k_598 hT) (fun _ h9 => h9) rfl d_Mo_next_122 ?_
                refine lv_if_eq (tgt := 138) hx hb d_Mo_next_125 (by decide) (fun c125 => ?_) (fun c125 => ?_)
                · refine lv_iload_n hx hb d_Mo_next_138 rfl (lv_at hl 1 rfl) ?_
                  refine lv_if_eq (tgt := 164) hx hb d_Mo_next_139 (by decide) (fun c139 => ?_) (fun c139 => ?_)
                  · refine lv_iload_n hx hb d_Mo_next_164 rfl (lv_at hl 1 rfl) ?_
                    refine lv_if_ne (tgt := 189) hx hb d_Mo_next_165 (by decide) (fun c165 => ?_) (fun c165 => ?_)
                    · exact absurd rfl c165
                    · refine lv_aload_n hx hb d_Mo_next_168 rfl (lv_at hl 3 rfl) ?_
                      refine va_get (D := gD G) (ci := 7) (v := .ref (gad G 31)) (C := R_Mo) (T := F_Mo) (N := 29) hx hb (wl_Mo hT) (fun _ h9 => h9) hown hK hP 0 rfl rfl 10 (by decide) (k_580 hT) (fun _ h9 => h9) rfl d_Mo_next_169 ?_
                      refine lv_iload hx hb d_Mo_next_172 (lv_at hl 0 rfl) ?_
                      refine va_iald (f := (mJ σ 5)) hx hb hK hP 11 0 rfl rfl (at8 h) d_Mo_next_174 ?_
                      refine lv_if_le (tgt := 189) hx hb d_Mo_next_175 (by decide) (fun c175 => ?_) (fun c175 => ?_)
                      · refine lv_iload_n hx hb d_Mo_next_189 rfl (lv_at hl 1 rfl) ?_
                        refine lv_if_eq (tgt := 205) hx hb d_Mo_next_190 (by decide) (fun c190 => ?_) (fun c190 => ?_)
                        · refine lv_iload_n hx hb d_Mo_next_205 rfl (lv_at hl 4 rfl) ?_
                          refine lv_iconst (v := 1) hx hb d_Mo_next_206 (by decide) ?_
                          refine lv_iadd hx hb d_Mo_next_207 ?_
                          refine lv_bipush (v := 24) hx hb d_Mo_next_208 (by decide) ?_
                          refine lv_irem hx hb d_Mo_next_210 (by decide) ?_
                          exact mend_i (u := (tI σ 6 0)) hx hb hr hlocks hS hP d_Mo_next_211 (⟨by unfold nxF jmM mq; simp [ix, c10, c26, eq_true c58, c69, c101, c175], by unfold nxF nx2 nx1 wrM jmM mq; simp [ix, b2i, mJ_tI, mI_tI, c10, c26, eq_true c58, c69, c101, c175]⟩)
                        · exact absurd rfl c190
                      · refine lv_aload_n hx hb d_Mo_next_178 rfl (lv_at hl 3 rfl) ?_
                        refine va_get (D := gD G) (ci := 7) (v := .ref (gad G 31)) (C := R_Mo) (T := F_Mo) (N := 29) hx hb (wl_Mo hT) (fun _ h9 => h9) hown hK hP 0 rfl rfl 10 (by decide) (k_580 hT) (fun _ h9 => h9) rfl d_Mo_next_179 ?_
                        refine lv_iload hx hb d_Mo_next_182 (lv_at hl 0 rfl) ?_
                        refine lv_dup2_11 hx hb d_Mo_next_184 rfl rfl ?_
                        refine va_iald (f := (mJ σ 5)) hx hb hK hP 11 0 rfl rfl (at8 h) d_Mo_next_185 ?_
                        refine lv_iconst (v := 1) hx hb d_Mo_next_186 (by decide) ?_
                        refine lv_isub hx hb d_Mo_next_187 ?_
                        refine va_iast (f := (mJ σ 5)) hx hb hK hP hD hS 11 0 rfl rfl (at8 h) d_Mo_next_188 (fun H locs hP hD hS => ?_)
                        have hP : va_P (gD G) classes (mw G (tJ (tI σ 6 0) 5 (upd (mJ σ 5) (i - i / 8 * 8).toNatClampNeg (((mJ σ 5) (i - i / 8 * 8).toNatClampNeg) - 1)))) H := hP
                        have hD : va_D (gA G) (mw G (tJ (tI σ 6 0) 5 (upd (mJ σ 5) (i - i / 8 * 8).toNatClampNeg (((mJ σ 5) (i - i / 8 * 8).toNatClampNeg) - 1)))) := g.d
                        refine lv_iload_n hx hb d_Mo_next_189 rfl (lv_at hl 1 rfl) ?_
                        refine lv_if_eq (tgt := 205) hx hb d_Mo_next_190 (by decide) (fun c190 => ?_) (fun c190 => ?_)
                        · refine lv_iload_n hx hb d_Mo_next_205 rfl (lv_at hl 4 rfl) ?_
                          refine lv_iconst (v := 1) hx hb d_Mo_next_206 (by decide) ?_
                          refine lv_iadd hx hb d_Mo_next_207 ?_
                          refine lv_bipush (v := 24) hx hb d_Mo_next_208 (by decide) ?_
                          refine lv_irem hx hb d_Mo_next_210 (by decide) ?_
                          exact mend_i (u := (tJ (tI σ 6 0) 5 (upd (mJ σ 5) (i - i / 8 * 8).toNatClampNeg (((mJ σ 5) (i - i / 8 * 8).toNatClampNeg) - 1)))) hx hb hr hlocks hS hP d_Mo_next_211 (⟨by unfold nxF jmM mq; simp [ix, c10, c26, eq_true c58, c69, c101, c175], by unfold nxF nx2 nx1 wrM jmM mq; simp [ix, b2i, mJ_tI, mI_tI, c10, c26, eq_true c58, c69, c101, c175]⟩)
                        · exact absurd rfl c190
                  · exact absurd rfl c139
                · exact absurd rfl c125
              · exact absurd (by decide) c110
            · refine lv_iconst (v := 1) hx hb d_Mo_next_104 (by decide) ?_
              refine lv_goto (tgt := 109) hx hb d_Mo_next_105 (by decide) ?_
              refine lv_iload_n hx hb d_Mo_next_109 rfl (lv_at hl 1 rfl) ?_
              refine lv_icmp_eq (tgt := 117) hx hb d_Mo_next_110 (by decide) (fun c110 => ?_) (fun c110 => ?_)
              · exact absurd c110 (by decide)
              · refine lv_iconst (v := 1) hx hb d_Mo_next_113 (by decide) ?_
                refine lv_goto (tgt := 118) hx hb d_Mo_next_114 (by decide) ?_
                refine va_put (D := gD G) (ci := 7) (v := .int 1) (ty := .boolean) (C := R_Mo) (T := F_Mo) (N := 29) hx hb (wl_Mo hT) (fun _ h9 => h9) fy_Mo fy_Mo_ok fn_Mo hown hK hP hD hS 0 rfl rfl 28 (by decide) (k_598 hT) (fun _ h9 => h9) rfl (by decide +kernel) rfl rfl (Nat.le_of_ble_eq_true rfl) d_Mo_next_118 (fun H locs hP hD hS => ?_)
                have hP : va_P (gD G) classes (mw G (tI σ 6 1)) H := hP
                have hD : va_D (gA G) (mw G (tI σ 6 1)) := g.d
                refine lv_aload_n hx hb d_Mo_next_121 rfl (lv_at hl 3 rfl) ?_
                refine va_get (D := gD G) (ci := 7) (v := .int 1) (C := R_Mo) (T := F_Mo) (N := 29) hx hb (wl_Mo hT) (fun _ h9 => h9) hown hK hP 0 rfl rfl 28 (by decide) (k_598 hT) (fun _ h9 => h9) rfl d_Mo_next_122 ?_
                refine lv_if_eq (tgt := 138) hx hb d_Mo_next_125 (by decide) (fun c125 => ?_) (fun c125 => ?_)
                · exact absurd c125 (by decide)
                · refine lv_aload_n hx hb d_Mo_next_128 rfl (lv_at hl 3 rfl) ?_
                  refine lv_dup hx hb d_Mo_next_129 rfl ?_
                  refine va_get (D := gD G) (ci := 7) (v := .int (mI σ 10)) (C := R_Mo) (T := F_Mo) (N := 29) hx hb (wl_Mo hT) (fun _ h9 => h9) hown hK hP 0 rfl rfl 22 (by decide) (k_592 hT) (fun _ h9 => h9) rfl d_Mo_next_130 ?_
                  refine lv_iconst (v := 1) hx hb d_Mo_next_133 (by decide) ?_
                  refine lv_iadd hx hb d_Mo_next_134 ?_
                  refine va_put (D := gD G) (ci := 7) (v := .int ((mI σ 10) + 1)) (ty := .int) (C := R_Mo) (T := F_Mo) (N := 29) hx hb (wl_Mo hT) (fun _ h9 => h9) fy_Mo fy_Mo_ok fn_Mo hown hK hP hD hS 0 rfl rfl 22 (by decide) (k_592 hT) (fun _ h9 => h9) rfl (by decide +kernel) rfl rfl (Nat.le_of_ble_eq_true rfl) d_Mo_next_135 (fun H locs hP hD hS => ?_)
                  have hP : va_P (gD G) classes (mw G (tI (tI σ 6 1) 10 ((mI σ 10) + 1))) H := hP
                  have hD : va_D (gA G) (mw G (tI (tI σ 6 1) 10 ((mI σ 10) + 1))) := g.d
                  refine lv_iload_n hx hb d_Mo_next_138 rfl (lv_at hl 1 rfl) ?_
                  refine lv_if_eq (tgt := 164) hx hb d_Mo_next_139 (by decide) (fun c139 => ?_) (fun c139 => ?_)
                  · refine lv_iload_n hx hb d_Mo_next_164 rfl (lv_at hl 1 rfl) ?_
                    refine lv_if_ne (tgt := 189) hx hb d_Mo_next_165 (by decide) (fun c165 => ?_) (fun c165 => ?_)
                    · exact absurd rfl c165
                    · refine lv_aload_n hx hb d_Mo_next_168 rfl (lv_at hl 3 rfl) ?_
                      refine va_get (D := gD G) (ci := 7) (v := .ref (gad G 31)) (C := R_Mo) (T := F_Mo) (N := 29) hx hb (wl_Mo hT) (fun _ h9 => h9) hown hK hP 0 rfl rfl 10 (by decide) (k_580 hT) (fun _ h9 => h9) rfl d_Mo_next_169 ?_
                      refine lv_iload hx hb d_Mo_next_172 (lv_at hl 0 rfl) ?_
                      refine va_iald (f := (mJ σ 5)) hx hb hK hP 11 0 rfl rfl (at8 h) d_Mo_next_174 ?_
                      refine lv_if_le (tgt := 189) hx hb d_Mo_next_175 (by decide) (fun c175 => ?_) (fun c175 => ?_)
                      · refine lv_iload_n hx hb d_Mo_next_189 rfl (lv_at hl 1 rfl) ?_
                        refine lv_if_eq (tgt := 205) hx hb d_Mo_next_190 (by decide) (fun c190 => ?_) (fun c190 => ?_)
                        · refine lv_iload_n hx hb d_Mo_next_205 rfl (lv_at hl 4 rfl) ?_
                          refine lv_iconst (v := 1) hx hb d_Mo_next_206 (by decide) ?_
                          refine lv_iadd hx hb d_Mo_next_207 ?_
                          refine lv_bipush (v := 24) hx hb d_Mo_next_208 (by decide) ?_
                          refine lv_irem hx hb d_Mo_next_210 (by decide) ?_
                          exact mend_i (u := (tI (tI σ 6 1) 10 ((mI σ 10) + 1))) hx hb hr hlocks hS hP d_Mo_next_211 (⟨by unfold nxF jmM mq; simp [ix, c10, c26, eq_true c58, c69, c101, c175], by unfold nxF nx2 nx1 wrM jmM mq; simp [ix, b2i, mJ_tI, mI_tI, c10, c26, eq_true c58, c69, c101, c175]⟩)
                        · exact absurd rfl c190
                      · refine lv_aload_n hx hb d_Mo_next_178 rfl (lv_at hl 3 rfl) ?_
                        refine va_get (D := gD G) (ci := 7) (v := .ref (gad G 31)) (C := R_Mo) (T := F_Mo) (N := 29) hx hb (wl_Mo hT) (fun _ h9 => h9) hown hK hP 0 rfl rfl 10 (by decide) (k_580 hT) (fun _ h9 => h9) rfl d_Mo_next_179 ?_
                        refine lv_iload hx hb d_Mo_next_182 (lv_at hl 0 rfl) ?_
                        refine lv_dup2_11 hx hb d_Mo_next_184 rfl rfl ?_
                        refine va_iald (f := (mJ σ 5)) hx hb hK hP 11 0 rfl rfl (at8 h) d_Mo_next_185 ?_
                        refine lv_iconst (v := 1) hx hb d_Mo_next_186 (by decide) ?_
                        refine lv_isub hx hb d_Mo_next_187 ?_
                        refine va_iast (f := (mJ σ 5)) hx hb hK hP hD hS 11 0 rfl rfl (at8 h) d_Mo_next_188 (fun H locs hP hD hS => ?_)
                        have hP : va_P (gD G) classes (mw G (tJ (tI (tI σ 6 1) 10 ((mI σ 10) + 1)) 5 (upd (mJ σ 5) (i - i / 8 * 8).toNatClampNeg (((mJ σ 5) (i - i / 8 * 8).toNatClampNeg) - 1)))) H := hP
                        have hD : va_D (gA G) (mw G (tJ (tI (tI σ 6 1) 10 ((mI σ 10) + 1)) 5 (upd (mJ σ 5) (i - i / 8 * 8).toNatClampNeg (((mJ σ 5) (i - i / 8 * 8).toNatClampNeg) - 1)))) := g.d
                        refine lv_iload_n hx hb d_Mo_next_189 rfl (lv_at hl 1 rfl) ?_
                        refine lv_if_eq (tgt := 205) hx hb d_Mo_next_190 (by decide) (fun c190 => ?_) (fun c190 => ?_)
                        · refine lv_iload_n hx hb d_Mo_next_205 rfl (lv_at hl 4 rfl) ?_
                          refine lv_iconst (v := 1) hx hb d_Mo_next_206 (by decide) ?_
                          refine lv_iadd hx hb d_Mo_next_207 ?_
                          refine lv_bipush (v := 24) hx hb d_Mo_next_208 (by decide) ?_
                          refine lv_irem hx hb d_Mo_next_210 (by decide) ?_
                          exact mend_i (u := (tJ (tI (tI σ 6 1) 10 ((mI σ 10) + 1)) 5 (upd (mJ σ 5) (i - i / 8 * 8).toNatClampNeg (((mJ σ 5) (i - i / 8 * 8).toNatClampNeg) - 1)))) hx hb hr hlocks hS hP d_Mo_next_211 (⟨by unfold nxF jmM mq; simp [ix, c10, c26, eq_true c58, c69, c101, c175], by unfold nxF nx2 nx1 wrM jmM mq; simp [ix, b2i, mJ_tI, mI_tI, c10, c26, eq_true c58, c69, c101, c175]⟩)
                        · exact absurd rfl c190
                  · exact absurd rfl c139
          · exact absurd c77 (by decide)
        · refine lv_iconst (v := 1) hx hb d_Mo_next_72 (by decide) ?_
          refine lv_goto (tgt := 77) hx hb d_Mo_next_73 (by decide) ?_
          refine lv_icmp_ne (tgt := 84) hx hb d_Mo_next_77 (by decide) (fun c77 => ?_) (fun c77 => ?_)
          · exact absurd (by decide) c77
          · refine lv_iconst (v := 1) hx hb d_Mo_next_80 (by decide) ?_
            refine lv_goto (tgt := 85) hx hb d_Mo_next_81 (by decide) ?_
            refine lv_istore_n (lv' := [(3, .int 1), (2, .int ((mJ σ 6) i.toNatClampNeg)), (0, .ref (gad G 20)), (1, .int i)]) hx hb d_Mo_next_85 rfl hl (by decide) rfl (fun ls hl => ?_)
            refine lv_iload_n hx hb d_Mo_next_86 rfl (lv_at hl 3 rfl) ?_
            refine lv_bipush (v := 8) hx hb d_Mo_next_87 (by decide) ?_
            refine lv_irem hx hb d_Mo_next_89 (by decide) ?_
            refine lv_istore (lv' := [(4, .int (i - i / 8 * 8)), (3, .int 1), (2, .int ((mJ σ 6) i.toNatClampNeg)), (0, .ref (gad G 20)), (1, .int i)]) hx hb d_Mo_next_90 hl (by decide) rfl (fun ls hl => ?_)
            refine lv_aload_n hx hb d_Mo_next_92 rfl (lv_at hl 3 rfl) ?_
            refine lv_aload_n hx hb d_Mo_next_93 rfl (lv_at hl 3 rfl) ?_
            refine va_get (D := gD G) (ci := 7) (v := .ref (gad G 31)) (C := R_Mo) (T := F_Mo) (N := 29) hx hb (wl_Mo hT) (fun _ h9 => h9) hown hK hP 0 rfl rfl 10 (by decide) (k_580 hT) (fun _ h9 => h9) rfl d_Mo_next_94 ?_
            refine lv_iload hx hb d_Mo_next_97 (lv_at hl 0 rfl) ?_
            refine va_iald (f := (mJ σ 5)) hx hb hK hP 11 0 rfl rfl (at8 h) d_Mo_next_99 ?_
            refine lv_iconst (v := 1) hx hb d_Mo_next_100 (by decide) ?_
            refine lv_icmp_le (tgt := 108) hx hb d_Mo_next_101 (by decide) (fun c101 => ?_) (fun c101 => ?_)
            · refine lv_iconst (v := 0) hx hb d_Mo_next_108 (by decide) ?_
              refine lv_iload_n hx hb d_Mo_next_109 rfl (lv_at hl 1 rfl) ?_
              refine lv_icmp_eq (tgt := 117) hx hb d_Mo_next_110 (by decide) (fun c110 => ?_) (fun c110 => ?_)
              · exact absurd c110 (by decide)
              · refine lv_iconst (v := 1) hx hb d_Mo_next_113 (by decide) ?_
                refine lv_goto (tgt := 118) hx hb d_Mo_next_114 (by decide) ?_
                refine va_put (D := gD G) (ci := 7) (v := .int 1) (ty := .boolean) (C := R_Mo) (T := F_Mo) (N := 29) hx hb (wl_Mo hT) (fun _ h9 => h9) fy_Mo fy_Mo_ok fn_Mo hown hK hP hD hS 0 rfl rfl 28 (by decide) (k_598 hT) (fun _ h9 => h9) rfl (by decide +kernel) rfl rfl (Nat.le_of_ble_eq_true rfl) d_Mo_next_118 (fun H locs hP hD hS => ?_)
                have hP : va_P (gD G) classes (mw G (tI σ 6 1)) H := hP
                have hD : va_D (gA G) (mw G (tI σ 6 1)) := g.d
                refine lv_aload_n hx hb d_Mo_next_121 rfl (lv_at hl 3 rfl) ?_
                refine va_get (D := gD G) (ci := 7) (v := .int 1) (C := R_Mo) (T := F_Mo) (N := 29) hx hb (wl_Mo hT) (fun _ h9 => h9) hown hK hP 0 rfl rfl 28 (by decide) (k_598 hT) (fun _ h9 => h9) rfl d_Mo_next_122 ?_
                refine lv_if_eq (tgt := 138) hx hb d_Mo_next_125 (by decide) (fun c125 => ?_) (fun c125 => ?_)
                · exact absurd c125 (by decide)
                · refine lv_aload_n hx hb d_Mo_next_128 rfl (lv_at hl 3 rfl) ?_
                  refine lv_dup hx hb d_Mo_next_129 rfl ?_
                  refine va_get (D := gD G) (ci := 7) (v := .int (mI σ 10)) (C := R_Mo) (T := F_Mo) (N := 29) hx hb (wl_Mo hT) (fun _ h9 => h9) hown hK hP 0 rfl rfl 22 (by decide) (k_592 hT) (fun _ h9 => h9) rfl d_Mo_next_130 ?_
                  refine lv_iconst (v := 1) hx hb d_Mo_next_133 (by decide) ?_
                  refine lv_iadd hx hb d_Mo_next_134 ?_
                  refine va_put (D := gD G) (ci := 7) (v := .int ((mI σ 10) + 1)) (ty := .int) (C := R_Mo) (T := F_Mo) (N := 29) hx hb (wl_Mo hT) (fun _ h9 => h9) fy_Mo fy_Mo_ok fn_Mo hown hK hP hD hS 0 rfl rfl 22 (by decide) (k_592 hT) (fun _ h9 => h9) rfl (by decide +kernel) rfl rfl (Nat.le_of_ble_eq_true rfl) d_Mo_next_135 (fun H locs hP hD hS => ?_)
                  have hP : va_P (gD G) classes (mw G (tI (tI σ 6 1) 10 ((mI σ 10) + 1))) H := hP
                  have hD : va_D (gA G) (mw G (tI (tI σ 6 1) 10 ((mI σ 10) + 1))) := g.d
                  refine lv_iload_n hx hb d_Mo_next_138 rfl (lv_at hl 1 rfl) ?_
                  refine lv_if_eq (tgt := 164) hx hb d_Mo_next_139 (by decide) (fun c139 => ?_) (fun c139 => ?_)
                  · exact absurd c139 (by decide)
                  · refine lv_aload_n hx hb d_Mo_next_142 rfl (lv_at hl 3 rfl) ?_
                    refine va_get (D := gD G) (ci := 7) (v := .ref (gad G 31)) (C := R_Mo) (T := F_Mo) (N := 29) hx hb (wl_Mo hT) (fun _ h9 => h9) hown hK hP 0 rfl rfl 10 (by decide) (k_580 hT) (fun _ h9 => h9) rfl d_Mo_next_143 ?_
                    refine lv_iload hx hb d_Mo_next_146 (lv_at hl 0 rfl) ?_
                    refine va_iald (f := (mJ σ 5)) hx hb hK hP 11 0 rfl rfl (at8 h) d_Mo_next_148 ?_
                    refine lv_iconst (v := 3) hx hb d_Mo_next_149 (by decide) ?_
                    refine lv_icmp_ge (tgt := 164) hx hb d_Mo_next_150 (by decide) (fun c150 => ?_) (fun c150 => ?_)
                    · refine lv_iload_n hx hb d_Mo_next_164 rfl (lv_at hl 1 rfl) ?_
                      refine lv_if_ne (tgt := 189) hx hb d_Mo_next_165 (by decide) (fun c165 => ?_) (fun c165 => ?_)
                      · refine lv_iload_n hx hb d_Mo_next_189 rfl (lv_at hl 1 rfl) ?_
                        refine lv_if_eq (tgt := 205) hx hb d_Mo_next_190 (by decide) (fun c190 => ?_) (fun c190 => ?_)
                        · exact absurd c190 (by decide)
                        · refine lv_aload_n hx hb d_Mo_next_193 rfl (lv_at hl 3 rfl) ?_
                          refine va_get (D := gD G) (ci := 7) (v := .ref (gad G 25)) (C := R_Mo) (T := F_Mo) (N := 29) hx hb (wl_Mo hT) (fun _ h9 => h9) hown hK hP 0 rfl rfl 4 (by decide) (k_574 hT) (fun _ h9 => h9) rfl d_Mo_next_194 ?_
                          refine lv_iload_n hx hb d_Mo_next_197 rfl (lv_at hl 4 rfl) ?_
                          refine va_iald (f := (mJ σ 10)) hx hb hK hP 5 0 rfl rfl (h) d_Mo_next_198 ?_
                          refine cx_S (n := 1) (As := [.int ((mJ σ 10) i.toNatClampNeg)]) (rest := []) ⟨hx, hb, hml, hown, fun _ h9 => nomatch h9⟩ (K_Mo_modulo g (tI (tI σ 6 1) 10 ((mI σ 10) + 1)) ((mJ σ 10) i.toNatClampNeg) ) (k_740 hT) (k_741 hT) (k_742 hT) (k_9 hT) rfl (by decide +kernel) (hc.at g hS hP) ⟨by decide, by decide⟩ ⟨by decide, by decide⟩ hl.1 (Nat.le_of_ble_eq_true rfl) d_Mo_next_199 (fun _ h9 => h9) hS (fun _ _ _ _ _ _ _ h9 => h9.elim) (fun v t H locs ht9 hRt hz hk hS => ?_)
                          obtain ⟨r, u, rfl, ⟨er, eu⟩, hP⟩ := hRt
                          subst er
                          rw [eu, ht9] at hP
                          have hD : va_D (gA G) (mw G (tI (tI σ 6 1) 10 ((mI σ 10) + 1))) := g.d
                          refine W.eq (g2 := F0 m 202 ls [.int (mdl ((mJ σ 10) i.toNatClampNeg))]) rfl ?_
                          refine lv_goto (tgt := 211) hx hb d_Mo_next_202 (by decide) ?_
                          exact mend_i (u := (tI (tI σ 6 1) 10 ((mI σ 10) + 1))) hx hb hr hlocks hS hP d_Mo_next_211 (⟨by unfold nxF jmM mq; simp [ix, c10, c26, eq_true c58, eq_true c69, c101, c150], by unfold nxF nx2 nx1 wrM jmM mq; simp [ix, b2i, mJ_tI, mI_tI, c10, c26, eq_true c58, eq_true c69, c101, c150]⟩)
                      · exact absurd c165 (by decide)
                    · refine lv_aload_n hx hb d_Mo_next_153 rfl (lv_at hl 3 rfl) ?_
                      refine va_get (D := gD G) (ci := 7) (v := .ref (gad G 31)) (C := R_Mo) (T := F_Mo) (N := 29) hx hb (wl_Mo hT) (fun _ h9 => h9) hown hK hP 0 rfl rfl 10 (by decide) (k_580 hT) (fun _ h9 => h9) rfl d_Mo_next_154 ?_
                      refine lv_iload hx hb d_Mo_next_157 (lv_at hl 0 rfl) ?_
                      refine lv_dup2_11 hx hb d_Mo_next_159 rfl rfl ?_
                      refine va_iald (f := (mJ σ 5)) hx hb hK hP 11 0 rfl rfl (at8 h) d_Mo_next_160 ?_
                      refine lv_iconst (v := 1) hx hb d_Mo_next_161 (by decide) ?_
                      refine lv_iadd hx hb d_Mo_next_162 ?_
                      refine va_iast (f := (mJ σ 5)) hx hb hK hP hD hS 11 0 rfl rfl (at8 h) d_Mo_next_163 (fun H locs hP hD hS => ?_)
                      have hP : va_P (gD G) classes (mw G (tJ (tI (tI σ 6 1) 10 ((mI σ 10) + 1)) 5 (upd (mJ σ 5) (i - i / 8 * 8).toNatClampNeg (((mJ σ 5) (i - i / 8 * 8).toNatClampNeg) + 1)))) H := hP
                      have hD : va_D (gA G) (mw G (tJ (tI (tI σ 6 1) 10 ((mI σ 10) + 1)) 5 (upd (mJ σ 5) (i - i / 8 * 8).toNatClampNeg (((mJ σ 5) (i - i / 8 * 8).toNatClampNeg) + 1)))) := g.d
                      refine lv_iload_n hx hb d_Mo_next_164 rfl (lv_at hl 1 rfl) ?_
                      refine lv_if_ne (tgt := 189) hx hb d_Mo_next_165 (by decide) (fun c165 => ?_) (fun c165 => ?_)
                      · refine lv_iload_n hx hb d_Mo_next_189 rfl (lv_at hl 1 rfl) ?_
                        refine lv_if_eq (tgt := 205) hx hb d_Mo_next_190 (by decide) (fun c190 => ?_) (fun c190 => ?_)
                        · exact absurd c190 (by decide)
                        · refine lv_aload_n hx hb d_Mo_next_193 rfl (lv_at hl 3 rfl) ?_
                          refine va_get (D := gD G) (ci := 7) (v := .ref (gad G 25)) (C := R_Mo) (T := F_Mo) (N := 29) hx hb (wl_Mo hT) (fun _ h9 => h9) hown hK hP 0 rfl rfl 4 (by decide) (k_574 hT) (fun _ h9 => h9) rfl d_Mo_next_194 ?_
                          refine lv_iload_n hx hb d_Mo_next_197 rfl (lv_at hl 4 rfl) ?_
                          refine va_iald (f := (mJ σ 10)) hx hb hK hP 5 0 rfl rfl (h) d_Mo_next_198 ?_
                          refine cx_S (n := 1) (As := [.int ((mJ σ 10) i.toNatClampNeg)]) (rest := []) ⟨hx, hb, hml, hown, fun _ h9 => nomatch h9⟩ (K_Mo_modulo g (tJ (tI (tI σ 6 1) 10 ((mI σ 10) + 1)) 5 (upd (mJ σ 5) (i - i / 8 * 8).toNatClampNeg (((mJ σ 5) (i - i / 8 * 8).toNatClampNeg) + 1))) ((mJ σ 10) i.toNatClampNeg) ) (k_740 hT) (k_741 hT) (k_742 hT) (k_9 hT) rfl (by decide +kernel) (hc.at g hS hP) ⟨by decide, by decide⟩ ⟨by decide, by decide⟩ hl.1 (Nat.le_of_ble_eq_true rfl) d_Mo_next_199 (fun _ h9 => h9) hS (fun _ _ _ _ _ _ _ h9 => h9.elim) (fun v t H locs ht9 hRt hz hk hS => ?_)
                          obtain ⟨r, u, rfl, ⟨er, eu⟩, hP⟩ := hRt
                          subst er
                          rw [eu, ht9] at hP
                          have hD : va_D (gA G) (mw G (tJ (tI (tI σ 6 1) 10 ((mI σ 10) + 1)) 5 (upd (mJ σ 5) (i - i / 8 * 8).toNatClampNeg (((mJ σ 5) (i - i / 8 * 8).toNatClampNeg) + 1)))) := g.d
                          refine W.eq (g2 := F0 m 202 ls [.int (mdl ((mJ σ 10) i.toNatClampNeg))]) rfl ?_
                          refine lv_goto (tgt := 211) hx hb d_Mo_next_202 (by decide) ?_
                          exact mend_i (u := (tJ (tI (tI σ 6 1) 10 ((mI σ 10) + 1)) 5 (upd (mJ σ 5) (i - i / 8 * 8).toNatClampNeg (((mJ σ 5) (i - i / 8 * 8).toNatClampNeg) + 1)))) hx hb hr hlocks hS hP d_Mo_next_211 (⟨by unfold nxF jmM mq; simp [ix, c10, c26, eq_true c58, eq_true c69, c101, c150], by unfold nxF nx2 nx1 wrM jmM mq; simp [ix, b2i, mJ_tI, mI_tI, c10, c26, eq_true c58, eq_true c69, c101, c150]⟩)
                      · exact absurd c165 (by decide)
            · refine lv_iconst (v := 1) hx hb d_Mo_next_104 (by decide) ?_
              refine lv_goto (tgt := 109) hx hb d_Mo_next_105 (by decide) ?_
              refine lv_iload_n hx hb d_Mo_next_109 rfl (lv_at hl 1 rfl) ?_
              refine lv_icmp_eq (tgt := 117) hx hb d_Mo_next_110 (by decide) (fun c110 => ?_) (fun c110 => ?_)
              · refine lv_iconst (v := 0) hx hb d_Mo_next_117 (by decide) ?_
                refine va_put (D := gD G) (ci := 7) (v := .int 0) (ty := .boolean) (C := R_Mo) (T := F_Mo) (N := 29) hx hb (wl_Mo hT) (fun _ h9 => h9) fy_Mo fy_Mo_ok fn_Mo hown hK hP hD hS 0 rfl rfl 28 (by decide) (k_598 hT) (fun _ h9 => h9) rfl (by decide +kernel) rfl rfl (Nat.le_of_ble_eq_true rfl) d_Mo_next_118 (fun H locs hP hD hS => ?_)
                have hP : va_P (gD G) classes (mw G (tI σ 6 0)) H := hP
                have hD : va_D (gA G) (mw G (tI σ 6 0)) := g.d
                refine lv_aload_n hx hb d_Mo_next_121 rfl (lv_at hl 3 rfl) ?_
                refine va_get (D := gD G) (ci := 7) (v := .int 0) (C := R_Mo) (T := F_Mo) (N := 29) hx hb (wl_Mo hT) (fun _ h9 => h9) hown hK hP 0 rfl rfl 28 (by decide) (k_598 hT) (fun _ h9 => h9) rfl d_Mo_next_122 ?_
                refine lv_if_eq (tgt := 138) hx hb d_Mo_next_125 (by decide) (fun c125 => ?_) (fun c125 => ?_)
                · refine lv_iload_n hx hb d_Mo_next_138 rfl (lv_at hl 1 rfl) ?_
                  refine lv_if_eq (tgt := 164) hx hb d_Mo_next_139 (by decide) (fun c139 => ?_) (fun c139 => ?_)
                  · exact absurd c139 (by decide)
                  · refine lv_aload_n hx hb d_Mo_next_142 rfl (lv_at hl 3 rfl) ?_
                    refine va_get (D := gD G) (ci := 7) (v := .ref (gad G 31)) (C := R_Mo) (T := F_Mo) (N := 29) hx hb (wl_Mo hT) (fun _ h9 => h9) hown hK hP 0 rfl rfl 10 (by decide) (k_580 hT) (fun _ h9 => h9) rfl d_Mo_next_143 ?_
                    refine lv_iload hx hb d_Mo_next_146 (lv_at hl 0 rfl) ?_
                    refine va_iald (f := (mJ σ 5)) hx hb hK hP 11 0 rfl rfl (at8 h) d_Mo_next_148 ?_
                    refine lv_iconst (v := 3) hx hb d_Mo_next_149 (by decide) ?_
                    refine lv_icmp_ge (tgt := 164) hx hb d_Mo_next_150 (by decide) (fun c150 => ?_) (fun c150 => ?_)
                    · refine lv_iload_n hx hb d_Mo_next_164 rfl (lv_at hl 1 rfl) ?_
                      refine lv_if_ne (tgt := 189) hx hb d_Mo_next_165 (by decide) (fun c165 => ?_) (fun c165 => ?_)
                      · refine lv_iload_n hx hb d_Mo_next_189 rfl (lv_at hl 1 rfl) ?_
                        refine lv_if_eq (tgt := 205) hx hb d_Mo_next_190 (by decide) (fun c190 => ?_) (fun c190 => ?_)
                        · exact absurd c190 (by decide)
                        · refine lv_aload_n hx hb d_Mo_next_193 rfl (lv_at hl 3 rfl) ?_
                          refine va_get (D := gD G) (ci := 7) (v := .ref (gad G 25)) (C := R_Mo) (T := F_Mo) (N := 29) hx hb (wl_Mo hT) (fun _ h9 => h9) hown hK hP 0 rfl rfl 4 (by decide) (k_574 hT) (fun _ h9 => h9) rfl d_Mo_next_194 ?_
                          refine lv_iload_n hx hb d_Mo_next_197 rfl (lv_at hl 4 rfl) ?_
                          refine va_iald (f := (mJ σ 10)) hx hb hK hP 5 0 rfl rfl (h) d_Mo_next_198 ?_
                          refine cx_S (n := 1) (As := [.int ((mJ σ 10) i.toNatClampNeg)]) (rest := []) ⟨hx, hb, hml, hown, fun _ h9 => nomatch h9⟩ (K_Mo_modulo g (tI σ 6 0) ((mJ σ 10) i.toNatClampNeg) ) (k_740 hT) (k_741 hT) (k_742 hT) (k_9 hT) rfl (by decide +kernel) (hc.at g hS hP) ⟨by decide, by decide⟩ ⟨by decide, by decide⟩ hl.1 (Nat.le_of_ble_eq_true rfl) d_Mo_next_199 (fun _ h9 => h9) hS (fun _ _ _ _ _ _ _ h9 => h9.elim) (fun v t H locs ht9 hRt hz hk hS => ?_)
                          obtain ⟨r, u, rfl, ⟨er, eu⟩, hP⟩ := hRt
                          subst er
                          rw [eu, ht9] at hP
                          have hD : va_D (gA G) (mw G (tI σ 6 0)) := g.d
                          refine W.eq (g2 := F0 m 202 ls [.int (mdl ((mJ σ 10) i.toNatClampNeg))]) rfl ?_
                          refine lv_goto (tgt := 211) hx hb d_Mo_next_202 (by decide) ?_
                          exact mend_i (u := (tI σ 6 0)) hx hb hr hlocks hS hP d_Mo_next_211 (⟨by unfold nxF jmM mq; simp [ix, c10, c26, eq_true c58, eq_true c69, c101, c150], by unfold nxF nx2 nx1 wrM jmM mq; simp [ix, b2i, mJ_tI, mI_tI, c10, c26, eq_true c58, eq_true c69, c101, c150]⟩)
                      · exact absurd c165 (by decide)
                    · refine lv_aload_n hx hb d_Mo_next_153 rfl (lv_at hl 3 rfl) ?_
                      refine va_get (D := gD G) (ci := 7) (v := .ref (gad G 31)) (C := R_Mo) (T := F_Mo) (N := 29) hx hb (wl_Mo hT) (fun _ h9 => h9) hown hK hP 0 rfl rfl 10 (by decide) (k_580 hT) (fun _ h9 => h9) rfl d_Mo_next_154 ?_
                      refine lv_iload hx hb d_Mo_next_157 (lv_at hl 0 rfl) ?_
                      refine lv_dup2_11 hx hb d_Mo_next_159 rfl rfl ?_
                      refine va_iald (f := (mJ σ 5)) hx hb hK hP 11 0 rfl rfl (at8 h) d_Mo_next_160 ?_
                      refine lv_iconst (v := 1) hx hb d_Mo_next_161 (by decide) ?_
                      refine lv_iadd hx hb d_Mo_next_162 ?_
                      refine va_iast (f := (mJ σ 5)) hx hb hK hP hD hS 11 0 rfl rfl (at8 h) d_Mo_next_163 (fun H locs hP hD hS => ?_)
                      have hP : va_P (gD G) classes (mw G (tJ (tI σ 6 0) 5 (upd (mJ σ 5) (i - i / 8 * 8).toNatClampNeg (((mJ σ 5) (i - i / 8 * 8).toNatClampNeg) + 1)))) H := hP
                      have hD : va_D (gA G) (mw G (tJ (tI σ 6 0) 5 (upd (mJ σ 5) (i - i / 8 * 8).toNatClampNeg (((mJ σ 5) (i - i / 8 * 8).toNatClampNeg) + 1)))) := g.d
                      refine lv_iload_n hx hb d_Mo_next_164 rfl (lv_at hl 1 rfl) ?_
                      refine lv_if_ne (tgt := 189) hx hb d_Mo_next_165 (by decide) (fun c165 => ?_) (fun c165 => ?_)
                      · refine lv_iload_n hx hb d_Mo_next_189 rfl (lv_at hl 1 rfl) ?_
                        refine lv_if_eq (tgt := 205) hx hb d_Mo_next_190 (by decide) (fun c190 => ?_) (fun c190 => ?_)
                        · exact absurd c190 (by decide)
                        · refine lv_aload_n hx hb d_Mo_next_193 rfl (lv_at hl 3 rfl) ?_
                          refine va_get (D := gD G) (ci := 7) (v := .ref (gad G 25)) (C := R_Mo) (T := F_Mo) (N := 29) hx hb (wl_Mo hT) (fun _ h9 => h9) hown hK hP 0 rfl rfl 4 (by decide) (k_574 hT) (fun _ h9 => h9) rfl d_Mo_next_194 ?_
                          refine lv_iload_n hx hb d_Mo_next_197 rfl (lv_at hl 4 rfl) ?_
                          refine va_iald (f := (mJ σ 10)) hx hb hK hP 5 0 rfl rfl (h) d_Mo_next_198 ?_
                          refine cx_S (n := 1) (As := [.int ((mJ σ 10) i.toNatClampNeg)]) (rest := []) ⟨hx, hb, hml, hown, fun _ h9 => nomatch h9⟩ (K_Mo_modulo g (tJ (tI σ 6 0) 5 (upd (mJ σ 5) (i - i / 8 * 8).toNatClampNeg (((mJ σ 5) (i - i / 8 * 8).toNatClampNeg) + 1))) ((mJ σ 10) i.toNatClampNeg) ) (k_740 hT) (k_741 hT) (k_742 hT) (k_9 hT) rfl (by decide +kernel) (hc.at g hS hP) ⟨by decide, by decide⟩ ⟨by decide, by decide⟩ hl.1 (Nat.le_of_ble_eq_true rfl) d_Mo_next_199 (fun _ h9 => h9) hS (fun _ _ _ _ _ _ _ h9 => h9.elim) (fun v t H locs ht9 hRt hz hk hS => ?_)
                          obtain ⟨r, u, rfl, ⟨er, eu⟩, hP⟩ := hRt
                          subst er
                          rw [eu, ht9] at hP
                          have hD : va_D (gA G) (mw G (tJ (tI σ 6 0) 5 (upd (mJ σ 5) (i - i / 8 * 8).toNatClampNeg (((mJ σ 5) (i - i / 8 * 8).toNatClampNeg) + 1)))) := g.d
                          refine W.eq (g2 := F0 m 202 ls [.int (mdl ((mJ σ 10) i.toNatClampNeg))]) rfl ?_
                          refine lv_goto (tgt := 211) hx hb d_Mo_next_202 (by decide) ?_
                          exact mend_i (u := (tJ (tI σ 6 0) 5 (upd (mJ σ 5) (i - i / 8 * 8).toNatClampNeg (((mJ σ 5) (i - i / 8 * 8).toNatClampNeg) + 1)))) hx hb hr hlocks hS hP d_Mo_next_211 (⟨by unfold nxF jmM mq; simp [ix, c10, c26, eq_true c58, eq_true c69, c101, c150], by unfold nxF nx2 nx1 wrM jmM mq; simp [ix, b2i, mJ_tI, mI_tI, c10, c26, eq_true c58, eq_true c69, c101, c150]⟩)
                      · exact absurd c165 (by decide)
                · exact absurd rfl c125
              · exact absurd (by decide) c110
    · refine lv_iload_n hx hb d_Mo_next_29 rfl (lv_at hl 2 rfl) ?_
      refine lv_iconst (v := 1) hx hb d_Mo_next_30 (by decide) ?_
      refine lv_iadd hx hb d_Mo_next_31 ?_
      refine lv_bipush (v := 24) hx hb d_Mo_next_32 (by decide) ?_
      refine lv_irem hx hb d_Mo_next_34 (by decide) ?_
      exact mend_i (u := σ) hx hb hr hlocks hS hP d_Mo_next_35 (⟨by unfold nxF jmM mq; simp [ix, c10, c26], by unfold nxF nx2 nx1 wrM jmM mq; simp [ix, b2i, mJ_tI, mI_tI, c10, c26]⟩)
  · refine lv_aload_n hx hb d_Mo_next_13 rfl (lv_at hl 1 rfl) ?_
    refine va_get (D := gD G) (ci := 7) (v := .ref (gad G 25)) (C := R_Mo) (T := F_Mo) (N := 29) hx hb (wl_Mo hT) (fun _ h9 => h9) hown hK hP 0 rfl rfl 4 (by decide) (k_574 hT) (fun _ h9 => h9) rfl d_Mo_next_14 ?_
    refine lv_iload_n hx hb d_Mo_next_17 rfl (lv_at hl 2 rfl) ?_
    refine va_iald (f := (mJ σ 10)) hx hb hK hP 5 0 rfl rfl (h) d_Mo_next_18 ?_
    refine cx_S (n := 1) (As := [.int ((mJ σ 10) i.toNatClampNeg)]) (rest := []) ⟨hx, hb, hml, hown, fun _ h9 => nomatch h9⟩ (K_Mo_modulo g σ ((mJ σ 10) i.toNatClampNeg) ) (k_740 hT) (k_741 hT) (k_742 hT) (k_9 hT) rfl (by decide +kernel) (hc.at g hS hP) ⟨by decide, by decide⟩ ⟨by decide, by decide⟩ hl.1 (Nat.le_of_ble_eq_true rfl) d_Mo_next_19 (fun _ h9 => h9) hS (fun _ _ _ _ _ _ _ h9 => h9.elim) (fun v t H locs ht9 hRt hz hk hS => ?_)
    obtain ⟨r, u, rfl, ⟨er, eu⟩, hP⟩ := hRt
    subst er
    rw [eu, ht9] at hP
    have hD : va_D (gA G) (mw G σ) := g.d
    refine W.eq (g2 := F0 m 22 ls [.int (mdl ((mJ σ 10) i.toNatClampNeg))]) rfl ?_
    exact mend_i (u := σ) hx hb hr hlocks hS hP d_Mo_next_22 (⟨by unfold nxF jmM mq; simp [ix, eq_true c10], by unfold nxF nx2 nx1 wrM jmM mq; simp [ix, b2i, mJ_tI, mI_tI, eq_true c10]⟩)

