def CX12_readLine : eCo := [[some (.aload_n 0), some (.ldc 169), none, some (.bipush 14), none, some (.invokevirtual 170), none, none, some (.ifCond .eq 12), none, none, some (.aload_n 0), some (.iconst 0), some (.iconst 3), some (.invokevirtual 216), none],
  [none, some (.goto 88), none, none, some (.aload_n 0), some (.ldc 173), none, some (.bipush 14), none, some (.invokevirtual 170), none, none, some (.ifCond .eq 12), none, none, some (.aload_n 0)],
  [some (.iconst 1), some (.iconst 3), some (.invokevirtual 216), none, none, some (.goto 68), none, none, some (.aload_n 0), some (.ldc 174), none, some (.iconst 0), some (.invokevirtual 170), none, none, some (.ifCond .eq 13)],
  [none, none, some (.aload_n 0), some (.iconst 2), some (.bipush 6), none, some (.invokevirtual 216), none, none, some (.goto 48), none, none, some (.aload_n 0), some (.ldc 180), none, some (.iconst 0)],
  [some (.invokevirtual 170), none, none, some (.ifCond .eq 33), none, none, some (.aload_n 0), some (.getfield 219), none, none, some (.ifCond .ne 26), none, none, some (.aload_n 0), some (.iconst 1), some (.putfield 219)],
  [none, none, some (.aload_n 0), some (.invokevirtual 184), none, none, some (.aload_n 0), some (.aload_n 0), some (.iconst 0), some (.bipush 50), none, some (.invokevirtual 202), none, none, some (.putfield 223), none],
  [none, some (.goto 8), none, none, some (.aload_n 0), some (.iconst 2), some (.invokevirtual 190), none, none, some (.aload_n 0), some (.invokevirtual 146), none, none, some (.ifCond .eq 16), none, none],
  [some (.aload_n 0), some (.getfield 137), none, none, some (.iconst 3), some (.if_icmp .eq 8), none, none, some (.aload_n 0), some (.iconst 2), some (.invokevirtual 190), none, none, some (.aload_n 0), some (.invokevirtual 184), none],
  [none, some (.return_)]]
theorem dcX12_readLine : eDec cX12_readLine CX12_readLine := eDec_of (by decide +kernel)
def rs_mm_readLine : List (Nat × eR) := [(137, (0, 11, 22, 0)), (146, (1, 2, 0, 11)), (169, (2, 0, 0, 3650991)), (170, (1, 0, 2, 11)), (173, (2, 0, 0, 16273711)), (174, (2, 0, 0, 3540595)), (180, (2, 0, 0, 3197637)), (184, (1, 3, 0, 11)), (190, (1, 1, 1, 11)), (202, (1, 4, 2, 11)), (216, (1, 5, 2, 11)), (219, (0, 11, 29, 3)), (223, (0, 11, 4, 0))]
noncomputable def cs_mm_readLine : List (eF (eW)) := [K_mm_isWord, K_mm_fails, K_mm_isGood, K_mm_goOn, K_mm_number, K_mm_readHolder]
noncomputable def f_mm_readLine (w : eW) : Option (eW) := ((f_mm_isWord (3650991 : Int32) (14 : Int32) w).bind fun p1 => (if p1.1 = 0 then ((f_mm_isWord (16273711 : Int32) (14 : Int32) p1.2).bind fun p2 => (if p2.1 = 0 then ((f_mm_isWord (3540595 : Int32) (0 : Int32) p2.2).bind fun p3 => (if p3.1 = 0 then ((f_mm_isWord (3197637 : Int32) (0 : Int32) p3.2).bind fun p4 => (if p4.1 = 0 then ((f_mm_fails (2 : Int32) p4.2).bind fun w5 => ((f_mm_isGood w5).bind fun p6 => (if p6.1 = 0 then ((f_mm_goOn p6.2).bind fun w7 => (some w7)) else (if (p6.2.1 24 22) = (3 : Int32) then ((f_mm_goOn p6.2).bind fun w8 => (some w8)) else ((f_mm_fails (2 : Int32) p6.2).bind fun w9 => ((f_mm_goOn w9).bind fun w10 => (some w10))))))) else (if ¬ (p4.2.1 24 29) = 0 then ((f_mm_fails (2 : Int32) p4.2).bind fun w11 => ((f_mm_isGood w11).bind fun p12 => (if p12.1 = 0 then ((f_mm_goOn p12.2).bind fun w13 => (some w13)) else (if (p12.2.1 24 22) = (3 : Int32) then ((f_mm_goOn p12.2).bind fun w14 => (some w14)) else ((f_mm_fails (2 : Int32) p12.2).bind fun w15 => ((f_mm_goOn w15).bind fun w16 => (some w16))))))) else ((f_mm_goOn (eU1 p4.2 24 29 (1 : Int32))).bind fun w17 => ((f_mm_number (0 : Int32) (50 : Int32) w17).bind fun p18 => ((f_mm_isGood (eU1 p18.2 24 4 p18.1)).bind fun p19 => (if p19.1 = 0 then ((f_mm_goOn p19.2).bind fun w20 => (some w20)) else (if (p19.2.1 24 22) = (3 : Int32) then ((f_mm_goOn p19.2).bind fun w21 => (some w21)) else ((f_mm_fails (2 : Int32) p19.2).bind fun w22 => ((f_mm_goOn w22).bind fun w23 => (some w23))))))))))) else ((f_mm_readHolder (2 : Int32) (6 : Int32) p3.2).bind fun w24 => ((f_mm_isGood w24).bind fun p25 => (if p25.1 = 0 then ((f_mm_goOn p25.2).bind fun w26 => (some w26)) else (if (p25.2.1 24 22) = (3 : Int32) then ((f_mm_goOn p25.2).bind fun w27 => (some w27)) else ((f_mm_fails (2 : Int32) p25.2).bind fun w28 => ((f_mm_goOn w28).bind fun w29 => (some w29))))))))) else ((f_mm_readHolder (1 : Int32) (3 : Int32) p2.2).bind fun w30 => ((f_mm_isGood w30).bind fun p31 => (if p31.1 = 0 then ((f_mm_goOn p31.2).bind fun w32 => (some w32)) else (if (p31.2.1 24 22) = (3 : Int32) then ((f_mm_goOn p31.2).bind fun w33 => (some w33)) else ((f_mm_fails (2 : Int32) p31.2).bind fun w34 => ((f_mm_goOn w34).bind fun w35 => (some w35))))))))) else ((f_mm_readHolder (0 : Int32) (3 : Int32) p1.2).bind fun w36 => ((f_mm_isGood w36).bind fun p37 => (if p37.1 = 0 then ((f_mm_goOn p37.2).bind fun w38 => (some w38)) else (if (p37.2.1 24 22) = (3 : Int32) then ((f_mm_goOn p37.2).bind fun w39 => (some w39)) else ((f_mm_fails (2 : Int32) p37.2).bind fun w40 => ((f_mm_goOn w40).bind fun w41 => (some w41)))))))))
noncomputable def K_mm_readLine {ρ : Type} : eF ρ := fun as w k => match as with
  | [.ref r0] => bif Nat.beq r0 24 then (f_mm_readLine w).bind (fun w => k none w) else none
  | _ => none
section
variable {p : Program} {l : Launch} {e : Env} {s : State} {m : MethodId} {args : Array Value} {below : List Frame} {meth : Method} {c : Code} {ad : Nat → Nat} {D : va_G} {cA : Nat → ClassId}
theorem lk_mm_readLine : ∀ q ∈ rs_mm_readLine, eLnk { frames := 5, cells := 0, slots := 0, locals := 112 } vwCl (eWd yX12_readLine cX12_readLine 1 none) SSm SHm.length RX12 q.1 q.2 := List.forall_mem_cons.mpr ⟨lkX12_137 eTb_wd, List.forall_mem_cons.mpr ⟨trivial, List.forall_mem_cons.mpr ⟨lkX12_169 eTb_wd, List.forall_mem_cons.mpr ⟨trivial, List.forall_mem_cons.mpr ⟨lkX12_173 eTb_wd, List.forall_mem_cons.mpr ⟨lkX12_174 eTb_wd, List.forall_mem_cons.mpr ⟨lkX12_180 eTb_wd, List.forall_mem_cons.mpr ⟨trivial, List.forall_mem_cons.mpr ⟨trivial, List.forall_mem_cons.mpr ⟨trivial, List.forall_mem_cons.mpr ⟨trivial, List.forall_mem_cons.mpr ⟨lkX12_219 eTb_wd, List.forall_mem_cons.mpr ⟨lkX12_223 eTb_wd, fun _ h => absurd h List.not_mem_nil⟩⟩⟩⟩⟩⟩⟩⟩⟩⟩⟩⟩⟩
theorem hc_mm_readLine {x : eW} : ∀ q ∈ rs_mm_readLine, eHc l { frames := 5, cells := 0, slots := 0, locals := 112 } ad D cA vwCl SHm SSm (eWd yX12_readLine cX12_readLine 1 none) RX12 cs_mm_readLine x q := List.forall_mem_cons.mpr ⟨trivial, List.forall_mem_cons.mpr ⟨(fun as w k h => let ⟨v, w2, h1, h2⟩ := ok_mm_isGood as w k x h; ⟨v, w2, h1, eCal_of h2 ⟨rfl, rfl⟩ hdX12_isGood (gvX12_146 eTb_wd)⟩), List.forall_mem_cons.mpr ⟨trivial, List.forall_mem_cons.mpr ⟨(fun as w k h => let ⟨v, w2, h1, h2⟩ := ok_mm_isWord as w k x h; ⟨v, w2, h1, eCal_of h2 ⟨rfl, rfl⟩ hdX12_isWord (gvX12_170 eTb_wd)⟩), List.forall_mem_cons.mpr ⟨trivial, List.forall_mem_cons.mpr ⟨trivial, List.forall_mem_cons.mpr ⟨trivial, List.forall_mem_cons.mpr ⟨(fun as w k h => let ⟨v, w2, h1, h2⟩ := ok_mm_goOn as w k x h; ⟨v, w2, h1, eCal_of h2 ⟨rfl, rfl⟩ hdX12_goOn (gvX12_184 eTb_wd)⟩), List.forall_mem_cons.mpr ⟨(fun as w k h => let ⟨v, w2, h1, h2⟩ := ok_mm_fails as w k x h; ⟨v, w2, h1, eCal_of h2 ⟨rfl, rfl⟩ hdX12_fails (gvX12_190 eTb_wd)⟩), List.forall_mem_cons.mpr ⟨(fun as w k h => let ⟨v, w2, h1, h2⟩ := ok_mm_number as w k x h; ⟨v, w2, h1, eCal_of h2 ⟨rfl, rfl⟩ hdX12_number (gvX12_202 eTb_wd)⟩), List.forall_mem_cons.mpr ⟨(fun as w k h => let ⟨v, w2, h1, h2⟩ := ok_mm_readHolder as w k x h; ⟨v, w2, h1, eCal_of h2 ⟨rfl, rfl⟩ hdX12_readHolder (gvX12_216 eTb_wd)⟩), List.forall_mem_cons.mpr ⟨trivial, List.forall_mem_cons.mpr ⟨trivial, fun _ h => absurd h List.not_mem_nil⟩⟩⟩⟩⟩⟩⟩⟩⟩⟩⟩⟩⟩
set_option maxRecDepth 100000 in
set_option maxHeartbeats 4000000 in
theorem go_mm_readLine (hcx : eCx p { frames := 5, cells := 0, slots := 0, locals := 112 } s m args meth c cX12_readLine RX12 1 ad D cA vwCl SHm SSm (eWd yX12_readLine cX12_readLine 1 none) (none)) (w : eW) (x : eW) (h : f_mm_readLine w = some x) : eGq p l e { frames := 5, cells := 0, slots := 0, locals := 112 } s m args below meth c 1 ad D cA vwCl SHm rV x 0 (eEnt [.ref 24]) [] w := by
  have h : eRun SHm SSm 1 rs_mm_readLine (eCs cs_mm_readLine) rV CX12_readLine [] (fun pc L st w => none) 50 true 0 [some (.ref 24)] [] w = some x := h
  refine eGo.wk (eRun_go hcx (eLnk_all lk_mm_readLine) (eHc_all hc_mm_readLine) rV_ok dcX12_readLine [] _ (fun pc L st w hK => ?_) 50 true 0 _ _ w h) (eLe_wk ⟨rfl, trivial⟩)
  cases hK
end
set_option maxRecDepth 100000 in
set_option maxHeartbeats 4000000 in
theorem ok_mm_readLine {l : Launch} {ad : Nat → Nat} {D : va_G} {cA : Nat → ClassId} {ρ : Type} (as : List Value) (w : eW) (k : Option Value → eW → Option ρ) (x : ρ) (h : K_mm_readLine as w k = some x) : ∃ (v : Option Value) (w2 : eW), k v w2 = some x ∧ eMet l ad D cA vwCl SHm SSm yX12_readLine (eWd yX12_readLine cX12_readLine 1 none) { frames := 5, cells := 0, slots := 0, locals := 112 } as w v w2 := by
  unfold K_mm_readLine at h
  split at h
  · rename_i r0
    obtain ⟨h1, h5⟩ := eBif h
    clear h
    have h := h5
    clear h5
    have h1 := Nat.eq_of_beq_eq_true h1
    subst h1
    obtain ⟨q, h2, h3⟩ := Option.bind_eq_some_iff.mp h
    exact ⟨_, _, h3, eMet_of (by decide +kernel) rfl (by simp [eCat, Value.category]) rV_ret (fun p e s m args below meth c hcx => go_mm_readLine hcx w q h2)⟩
  · cases h
def CX12_text : eCo := [[some (.aload_n 0), some (.iconst 0), some (.putfield 95), none, none, some (.aload_n 0), some (.aload_n 0), some (.getfield 124), none, none, some (.putfield 131), none, none, some (.aload_n 0), some (.iconst 0), some (.putfield 124)],
  [none, none, some (.aload_n 0), some (.iconst 0), some (.putfield 150), none, none, some (.aload_n 0), some (.iconst 0), some (.putfield 134), none, none, some (.aload_n 0), some (.iconst 0), some (.putfield 181), none],
  [none, some (.aload_n 0), some (.iconst 0), some (.putfield 223), none, none, some (.aload_n 0), some (.iconst 0), some (.putfield 219), none, none, some (.aload_n 0), some (.invokevirtual 184), none, none, some (.aload_n 0)],
  [some (.invokevirtual 146), none, none, some (.ifCond .eq 17), none, none, some (.aload_n 0), some (.getfield 137), none, none, some (.ifCond .eq 10), none, none, some (.aload_n 0), some (.invokevirtual 226), none],
  [none, some (.goto (-18)), none, none, some (.aload_n 0), some (.aload_n 0), some (.getfield 134), none, none, some (.putfield 229), none, none, some (.aload_n 0), some (.aload_n 0), some (.invokevirtual 146), none],
  [none, some (.ifCond .eq 7), none, none, some (.iconst (-1)), some (.goto 7), none, none, some (.aload_n 0), some (.getfield 143), none, none, some (.putfield 46), none, none, some (.aload_n 0)],
  [some (.invokevirtual 146), none, none, some (.ifCond .ne 5), none, none, some (.iconst (-1)), some (.ireturn), some (.aload_n 0), some (.aload_n 0), some (.getfield 181), none, none, some (.putfield 98), none, none],
  [some (.aload_n 0), some (.aload_n 0), some (.getfield 223), none, none, some (.putfield 232), none, none, some (.iconst 0), some (.istore_n 1), some (.iload_n 1), some (.bipush 12), none, some (.if_icmp .ge 159), none, none],
  [some (.aload_n 0), some (.getfield 7), none, none, some (.iload_n 1), some (.aload_n 0), some (.getfield 7), none, none, some (.bipush 12), none, some (.iload_n 1), some (.iadd), some (.iaload), some (.iastore), some (.aload_n 0)],
  [some (.getfield 13), none, none, some (.iload_n 1), some (.aload_n 0), some (.getfield 13), none, none, some (.bipush 12), none, some (.iload_n 1), some (.iadd), some (.iaload), some (.iastore), some (.aload_n 0), some (.getfield 16)],
  [none, none, some (.iload_n 1), some (.aload_n 0), some (.getfield 16), none, none, some (.bipush 12), none, some (.iload_n 1), some (.iadd), some (.iaload), some (.iastore), some (.aload_n 0), some (.getfield 19), none],
  [none, some (.iload_n 1), some (.aload_n 0), some (.getfield 19), none, none, some (.bipush 12), none, some (.iload_n 1), some (.iadd), some (.iaload), some (.iastore), some (.aload_n 0), some (.getfield 22), none, none],
  [some (.iload_n 1), some (.aload_n 0), some (.getfield 22), none, none, some (.bipush 12), none, some (.iload_n 1), some (.iadd), some (.iaload), some (.iastore), some (.aload_n 0), some (.getfield 25), none, none, some (.iload_n 1)],
  [some (.aload_n 0), some (.getfield 25), none, none, some (.bipush 12), none, some (.iload_n 1), some (.iadd), some (.iaload), some (.iastore), some (.aload_n 0), some (.getfield 28), none, none, some (.iload_n 1), some (.aload_n 0)],
  [some (.getfield 28), none, none, some (.bipush 12), none, some (.iload_n 1), some (.iadd), some (.iaload), some (.iastore), some (.aload_n 0), some (.getfield 31), none, none, some (.iload_n 1), some (.aload_n 0), some (.getfield 31)],
  [none, none, some (.bipush 12), none, some (.iload_n 1), some (.iadd), some (.iaload), some (.iastore), some (.aload_n 0), some (.getfield 34), none, none, some (.iload_n 1), some (.aload_n 0), some (.getfield 34), none],
  [none, some (.bipush 12), none, some (.iload_n 1), some (.iadd), some (.iaload), some (.iastore), some (.aload_n 0), some (.getfield 37), none, none, some (.iload_n 1), some (.aload_n 0), some (.getfield 37), none, none],
  [some (.bipush 12), none, some (.iload_n 1), some (.iadd), some (.iaload), some (.iastore), some (.iinc 1 1), none, none, some (.goto (-159)), none, none, some (.aload_n 0), some (.iconst 0), some (.putfield 113), none],
  [none, some (.aload_n 0), some (.iconst 0), some (.putfield 235), none, none, some (.aload_n 0), some (.iconst 0), some (.putfield 238), none, none, some (.aload_n 0), some (.iconst 0), some (.putfield 241), none, none],
  [some (.aload_n 0), some (.getfield 98), none, none, some (.ireturn)]]
theorem dcX12_text : eDec cX12_text CX12_text := eDec_of (by decide +kernel)
def rs_mm_text : List (Nat × eR) := [(7, (0, 11, 5, 2)), (13, (0, 11, 6, 2)), (16, (0, 11, 7, 2)), (19, (0, 11, 8, 2)), (22, (0, 11, 9, 2)), (25, (0, 11, 10, 2)), (28, (0, 11, 11, 2)), (31, (0, 11, 12, 2)), (34, (0, 11, 13, 2)), (37, (0, 11, 14, 2)), (46, (0, 11, 26, 0)), (95, (0, 11, 0, 0)), (98, (0, 11, 1, 0)), (113, (0, 11, 16, 0)), (124, (0, 11, 18, 0)), (131, (0, 11, 19, 0)), (134, (0, 11, 27, 0)), (137, (0, 11, 22, 0)), (143, (0, 11, 28, 0)), (146, (1, 1, 0, 11)), (150, (0, 11, 21, 0)), (181, (0, 11, 3, 0)), (184, (1, 0, 0, 11)), (219, (0, 11, 29, 3)), (223, (0, 11, 4, 0)), (226, (1, 2, 0, 11)), (229, (0, 11, 25, 0)), (232, (0, 11, 2, 0)), (235, (0, 11, 54, 0)), (238, (0, 11, 59, 3)), (241, (0, 11, 53, 0))]
noncomputable def cs_mm_text : List (eF (Int32 × eW)) := [K_mm_goOn, K_mm_isGood, K_mm_readLine]
noncomputable def f_mm_text_L122 : Nat → Int32 → eW → Option (Int32 × eW)
  | 0, _, _ => none
  | n + 1, a1, w => (if (12 : Int32) ≤ a1 then (some ((w.1 24 1), (eU1 (eU1 (eU1 (eU1 w 24 16 (0 : Int32)) 24 54 (0 : Int32)) 24 59 (0 : Int32)) 24 53 (0 : Int32)))) else (eChk ((12 : Int32) + a1) 24 (eChk a1 24 (eChk ((12 : Int32) + a1) 24 (eChk a1 24 (eChk ((12 : Int32) + a1) 24 (eChk a1 24 (eChk ((12 : Int32) + a1) 24 (eChk a1 24 (eChk ((12 : Int32) + a1) 24 (eChk a1 24 (eChk ((12 : Int32) + a1) 24 (eChk a1 24 (eChk ((12 : Int32) + a1) 24 (eChk a1 24 (eChk ((12 : Int32) + a1) 24 (eChk a1 24 (eChk ((12 : Int32) + a1) 24 (eChk a1 24 (eChk ((12 : Int32) + a1) 24 (eChk a1 24 (f_mm_text_L122 n (a1 + (1 : Int32)) (eU1 (eU1 (eU1 (eU1 (eU1 (eU1 (eU1 (eU1 (eU1 (eU1 w 0 (Int32.toNatClampNeg a1) (w.1 0 (Int32.toNatClampNeg ((12 : Int32) + a1)))) 1 (Int32.toNatClampNeg a1) (w.1 1 (Int32.toNatClampNeg ((12 : Int32) + a1)))) 2 (Int32.toNatClampNeg a1) (w.1 2 (Int32.toNatClampNeg ((12 : Int32) + a1)))) 3 (Int32.toNatClampNeg a1) (w.1 3 (Int32.toNatClampNeg ((12 : Int32) + a1)))) 4 (Int32.toNatClampNeg a1) (w.1 4 (Int32.toNatClampNeg ((12 : Int32) + a1)))) 5 (Int32.toNatClampNeg a1) (w.1 5 (Int32.toNatClampNeg ((12 : Int32) + a1)))) 6 (Int32.toNatClampNeg a1) (w.1 6 (Int32.toNatClampNeg ((12 : Int32) + a1)))) 7 (Int32.toNatClampNeg a1) (w.1 7 (Int32.toNatClampNeg ((12 : Int32) + a1)))) 8 (Int32.toNatClampNeg a1) (w.1 8 (Int32.toNatClampNeg ((12 : Int32) + a1)))) 9 (Int32.toNatClampNeg a1) (w.1 9 (Int32.toNatClampNeg ((12 : Int32) + a1))))))))))))))))))))))))))
noncomputable def f_mm_text_J68 (w : eW) : Option (Int32 × eW) := ((f_mm_isGood (eU1 w 24 25 (w.1 24 27))).bind fun p4 => (if p4.1 = 0 then ((f_mm_isGood (eU1 p4.2 24 26 (p4.2.1 24 28))).bind fun p5 => (if ¬ p5.1 = 0 then (f_mm_text_L122 eFu (0 : Int32) (eU1 (eU1 p5.2 24 1 (p5.2.1 24 3)) 24 2 (p5.2.1 24 4))) else (some ((-1 : Int32), p5.2)))) else ((f_mm_isGood (eU1 p4.2 24 26 (-1 : Int32))).bind fun p6 => (if ¬ p6.1 = 0 then (f_mm_text_L122 eFu (0 : Int32) (eU1 (eU1 p6.2 24 1 (p6.2.1 24 3)) 24 2 (p6.2.1 24 4))) else (some ((-1 : Int32), p6.2))))))
noncomputable def f_mm_text_L47 : Nat → eW → Option (Int32 × eW)
  | 0, _ => none
  | n + 1, w => ((f_mm_isGood w).bind fun p2 => (if p2.1 = 0 then (f_mm_text_J68 p2.2) else (if (p2.2.1 24 22) = 0 then (f_mm_text_J68 p2.2) else ((f_mm_readLine p2.2).bind fun w3 => (f_mm_text_L47 n w3)))))
noncomputable def f_mm_text (w : eW) : Option (Int32 × eW) := ((f_mm_goOn (eU1 (eU1 (eU1 (eU1 (eU1 (eU1 (eU1 (eU1 w 24 0 (0 : Int32)) 24 19 (w.1 24 18)) 24 18 (0 : Int32)) 24 21 (0 : Int32)) 24 27 (0 : Int32)) 24 3 (0 : Int32)) 24 4 (0 : Int32)) 24 29 (0 : Int32))).bind fun w1 => (f_mm_text_L47 eFu w1))
noncomputable def K_mm_text {ρ : Type} : eF ρ := fun as w k => match as with
  | [.ref r0] => bif Nat.beq r0 24 then (f_mm_text w).bind (fun p => k (some (.int p.1)) p.2) else none
  | _ => none
section
variable {p : Program} {l : Launch} {e : Env} {s : State} {m : MethodId} {args : Array Value} {below : List Frame} {meth : Method} {c : Code} {ad : Nat → Nat} {D : va_G} {cA : Nat → ClassId}
theorem lk_mm_text : ∀ q ∈ rs_mm_text, eLnk { frames := 6, cells := 0, slots := 0, locals := 132 } vwCl (eWd yX12_text cX12_text 2 (some .int)) SSm SHm.length RX12 q.1 q.2 := List.forall_mem_cons.mpr ⟨lkX12_7 eTb_wd, List.forall_mem_cons.mpr ⟨lkX12_13 eTb_wd, List.forall_mem_cons.mpr ⟨lkX12_16 eTb_wd, List.forall_mem_cons.mpr ⟨lkX12_19 eTb_wd, List.forall_mem_cons.mpr ⟨lkX12_22 eTb_wd, List.forall_mem_cons.mpr ⟨lkX12_25 eTb_wd, List.forall_mem_cons.mpr ⟨lkX12_28 eTb_wd, List.forall_mem_cons.mpr ⟨lkX12_31 eTb_wd, List.forall_mem_cons.mpr ⟨lkX12_34 eTb_wd, List.forall_mem_cons.mpr ⟨lkX12_37 eTb_wd, List.forall_mem_cons.mpr ⟨lkX12_46 eTb_wd, List.forall_mem_cons.mpr ⟨lkX12_95 eTb_wd, List.forall_mem_cons.mpr ⟨lkX12_98 eTb_wd, List.forall_mem_cons.mpr ⟨lkX12_113 eTb_wd, List.forall_mem_cons.mpr ⟨lkX12_124 eTb_wd, List.forall_mem_cons.mpr ⟨lkX12_131 eTb_wd, List.forall_mem_cons.mpr ⟨lkX12_134 eTb_wd, List.forall_mem_cons.mpr ⟨lkX12_137 eTb_wd, List.forall_mem_cons.mpr ⟨lkX12_143 eTb_wd, List.forall_mem_cons.mpr ⟨trivial, List.forall_mem_cons.mpr ⟨lkX12_150 eTb_wd, List.forall_mem_cons.mpr ⟨lkX12_181 eTb_wd, List.forall_mem_cons.mpr ⟨trivial, List.forall_mem_cons.mpr ⟨lkX12_219 eTb_wd, List.forall_mem_cons.mpr ⟨lkX12_223 eTb_wd, List.forall_mem_cons.mpr ⟨trivial, List.forall_mem_cons.mpr ⟨lkX12_229 eTb_wd, List.forall_mem_cons.mpr ⟨lkX12_232 eTb_wd, List.forall_mem_cons.mpr ⟨lkX12_235 eTb_wd, List.forall_mem_cons.mpr ⟨lkX12_238 eTb_wd, List.forall_mem_cons.mpr ⟨lkX12_241 eTb_wd, fun _ h => absurd h List.not_mem_nil⟩⟩⟩⟩⟩⟩⟩⟩⟩⟩⟩⟩⟩⟩⟩⟩⟩⟩⟩⟩⟩⟩⟩⟩⟩⟩⟩⟩⟩⟩⟩
theorem hc_mm_text {x : Int32 × eW} : ∀ q ∈ rs_mm_text, eHc l { frames := 6, cells := 0, slots := 0, locals := 132 } ad D cA vwCl SHm SSm (eWd yX12_text cX12_text 2 (some .int)) RX12 cs_mm_text x q := List.forall_mem_cons.mpr ⟨trivial, List.forall_mem_cons.mpr ⟨trivial, List.forall_mem_cons.mpr ⟨trivial, List.forall_mem_cons.mpr ⟨trivial, List.forall_mem_cons.mpr ⟨trivial, List.forall_mem_cons.mpr ⟨trivial, List.forall_mem_cons.mpr ⟨trivial, List.forall_mem_cons.mpr ⟨trivial, List.forall_mem_cons.mpr ⟨trivial, List.forall_mem_cons.mpr ⟨trivial, List.forall_mem_cons.mpr ⟨trivial, List.forall_mem_cons.mpr ⟨trivial, List.forall_mem_cons.mpr ⟨trivial, List.forall_mem_cons.mpr ⟨trivial, List.forall_mem_cons.mpr ⟨trivial, List.forall_mem_cons.mpr ⟨trivial, List.forall_mem_cons.mpr ⟨trivial, List.forall_mem_cons.mpr ⟨trivial, List.forall_mem_cons.mpr ⟨trivial, List.forall_mem_cons.mpr ⟨(fun as w k h => let ⟨v, w2, h1, h2⟩ := ok_mm_isGood as w k x h; ⟨v, w2, h1, eCal_of h2 ⟨rfl, rfl⟩ hdX12_isGood (gvX12_146 eTb_wd)⟩), List.forall_mem_cons.mpr ⟨trivial, List.forall_mem_cons.mpr ⟨trivial, List.forall_mem_cons.mpr ⟨(fun as w k h => let ⟨v, w2, h1, h2⟩ := ok_mm_goOn as w k x h; ⟨v, w2, h1, eCal_of h2 ⟨rfl, rfl⟩ hdX12_goOn (gvX12_184 eTb_wd)⟩), List.forall_mem_cons.mpr ⟨trivial, List.forall_mem_cons.mpr ⟨trivial, List.forall_mem_cons.mpr ⟨(fun as w k h => let ⟨v, w2, h1, h2⟩ := ok_mm_readLine as w k x h; ⟨v, w2, h1, eCal_of h2 ⟨rfl, rfl⟩ hdX12_readLine (gvX12_226 eTb_wd)⟩), List.forall_mem_cons.mpr ⟨trivial, List.forall_mem_cons.mpr ⟨trivial, List.forall_mem_cons.mpr ⟨trivial, List.forall_mem_cons.mpr ⟨trivial, List.forall_mem_cons.mpr ⟨trivial, fun _ h => absurd h List.not_mem_nil⟩⟩⟩⟩⟩⟩⟩⟩⟩⟩⟩⟩⟩⟩⟩⟩⟩⟩⟩⟩⟩⟩⟩⟩⟩⟩⟩⟩⟩⟩⟩
noncomputable def kk_mm_text_122 (n : Nat) : eK (Int32 × eW) := fun pc L st w => bif Nat.beq pc 122 then (lR L 0 24 ((lI L 1).bind fun a1 => sE st (f_mm_text_L122 n a1 w))) else none
set_option maxRecDepth 100000 in
set_option maxHeartbeats 4000000 in
theorem go_mm_text_L122 (hcx : eCx p { frames := 6, cells := 0, slots := 0, locals := 132 } s m args meth c cX12_text RX12 2 ad D cA vwCl SHm SSm (eWd yX12_text cX12_text 2 (some .int)) (some .int)) {x : Int32 × eW} : ∀ (n : Nat) (a1 : Int32) (w : eW), f_mm_text_L122  n a1 w = some x → eGq p l e { frames := 6, cells := 0, slots := 0, locals := 132 } s m args below meth c 2 ad D cA vwCl SHm rI x 122 [some (.ref 24), some (.int a1)] [] w := by
  intro n
  induction n with
  | zero => intro a1 w h; exact nomatch (show (none : Option (Int32 × eW)) = some x from h)
  | succ n ih =>
    intro a1 w h
    have h : eRun SHm SSm 2 rs_mm_text (eCs cs_mm_text) rI CX12_text [47, 68, 122] (kk_mm_text_122  n) 108 true 122 [some (.ref 24), some (.int a1)] [] w = some x := h
    refine eRun_go hcx (eLnk_all lk_mm_text) (eHc_all hc_mm_text) rI_ok dcX12_text [47, 68, 122] _ (fun pc L st w hK => ?_) 108 true 122 _ _ w h
    unfold kk_mm_text_122 at hK
    rcases eCut hK with ⟨hpc, hK⟩ | hK
    · subst hpc
      obtain ⟨e0, hK_1⟩ := lR_some hK
      obtain ⟨a1, e1, hK_2⟩ := lI_some hK_1
      obtain ⟨hst9, hK_3⟩ := sE_some hK_2
      subst hst9
      exact eGo.wk (ih a1 w hK_3) (eLe_wk ⟨e0, e1, trivial⟩)
    cases hK
noncomputable def kk_mm_text_68 : eK (Int32 × eW) := fun pc L st w => bif Nat.beq pc 122 then (lR L 0 24 ((lI L 1).bind fun a1 => sE st (f_mm_text_L122 eFu a1 w))) else none
set_option maxRecDepth 100000 in
set_option maxHeartbeats 4000000 in
theorem go_mm_text_J68 (hcx : eCx p { frames := 6, cells := 0, slots := 0, locals := 132 } s m args meth c cX12_text RX12 2 ad D cA vwCl SHm SSm (eWd yX12_text cX12_text 2 (some .int)) (some .int)) {x : Int32 × eW} : ∀ (w : eW), f_mm_text_J68  w = some x → eGq p l e { frames := 6, cells := 0, slots := 0, locals := 132 } s m args below meth c 2 ad D cA vwCl SHm rI x 68 [some (.ref 24), none] [] w := by
  intro w h
  have h : eRun SHm SSm 2 rs_mm_text (eCs cs_mm_text) rI CX12_text [47, 68, 122] (kk_mm_text_68 ) 27 true 68 [some (.ref 24), none] [] w = some x := h
  refine eRun_go hcx (eLnk_all lk_mm_text) (eHc_all hc_mm_text) rI_ok dcX12_text [47, 68, 122] _ (fun pc L st w hK => ?_) 27 true 68 _ _ w h
  unfold kk_mm_text_68 at hK
  rcases eCut hK with ⟨hpc, hK⟩ | hK
  · subst hpc
    obtain ⟨e0, hK_1⟩ := lR_some hK
    obtain ⟨a1, e1, hK_2⟩ := lI_some hK_1
    obtain ⟨hst9, hK_3⟩ := sE_some hK_2
    subst hst9
    exact eGo.wk (go_mm_text_L122 hcx  eFu a1 w hK_3) (eLe_wk ⟨e0, e1, trivial⟩)
  cases hK
noncomputable def kk_mm_text_47 (n : Nat) : eK (Int32 × eW) := fun pc L st w => bif Nat.beq pc 68 then (lR L 0 24 (sE st (f_mm_text_J68 w))) else (bif Nat.beq pc 47 then (lR L 0 24 (sE st (f_mm_text_L47 n w))) else none)
set_option maxRecDepth 100000 in
set_option maxHeartbeats 4000000 in
theorem go_mm_text_L47 (hcx : eCx p { frames := 6, cells := 0, slots := 0, locals := 132 } s m args meth c cX12_text RX12 2 ad D cA vwCl SHm SSm (eWd yX12_text cX12_text 2 (some .int)) (some .int)) {x : Int32 × eW} : ∀ (n : Nat) (w : eW), f_mm_text_L47  n w = some x → eGq p l e { frames := 6, cells := 0, slots := 0, locals := 132 } s m args below meth c 2 ad D cA vwCl SHm rI x 47 [some (.ref 24), none] [] w := by
  intro n
  induction n with
  | zero => intro w h; exact nomatch (show (none : Option (Int32 × eW)) = some x from h)
  | succ n ih =>
    intro w h
    have h : eRun SHm SSm 2 rs_mm_text (eCs cs_mm_text) rI CX12_text [47, 68, 122] (kk_mm_text_47  n) 12 true 47 [some (.ref 24), none] [] w = some x := h
    refine eRun_go hcx (eLnk_all lk_mm_text) (eHc_all hc_mm_text) rI_ok dcX12_text [47, 68, 122] _ (fun pc L st w hK => ?_) 12 true 47 _ _ w h
    unfold kk_mm_text_47 at hK
    rcases eCut hK with ⟨hpc, hK⟩ | hK
    · subst hpc
      obtain ⟨e0, hK_1⟩ := lR_some hK
      obtain ⟨hst9, hK_2⟩ := sE_some hK_1
      subst hst9
      exact eGo.wk (go_mm_text_J68 hcx  w hK_2) (eLe_wk ⟨e0, trivial⟩)
    rcases eCut hK with ⟨hpc, hK⟩ | hK
    · subst hpc
      obtain ⟨e0, hK_1⟩ := lR_some hK
      obtain ⟨hst9, hK_2⟩ := sE_some hK_1
      subst hst9
      exact eGo.wk (ih w hK_2) (eLe_wk ⟨e0, trivial⟩)
    cases hK
set_option maxRecDepth 100000 in
set_option maxHeartbeats 4000000 in
theorem go_mm_text (hcx : eCx p { frames := 6, cells := 0, slots := 0, locals := 132 } s m args meth c cX12_text RX12 2 ad D cA vwCl SHm SSm (eWd yX12_text cX12_text 2 (some .int)) (some .int)) (w : eW) (x : Int32 × eW) (h : f_mm_text w = some x) : eGq p l e { frames := 6, cells := 0, slots := 0, locals := 132 } s m args below meth c 2 ad D cA vwCl SHm rI x 0 (eEnt [.ref 24]) [] w := by
  have h : eRun SHm SSm 2 rs_mm_text (eCs cs_mm_text) rI CX12_text [47, 68, 122] (fun pc L st w => bif Nat.beq pc 47 then (lR L 0 24 (sE st (f_mm_text_L47 eFu w))) else none) 30 true 0 [some (.ref 24), none] [] w = some x := h
  refine eGo.wk (eRun_go hcx (eLnk_all lk_mm_text) (eHc_all hc_mm_text) rI_ok dcX12_text [47, 68, 122] _ (fun pc L st w hK => ?_) 30 true 0 _ _ w h) (eLe_wk ⟨rfl, trivial⟩)
  rcases eCut hK with ⟨hpc, hK⟩ | hK
  · subst hpc
    obtain ⟨e0, hK_1⟩ := lR_some hK
    obtain ⟨hst9, hK_2⟩ := sE_some hK_1
    subst hst9
    exact eGo.wk (go_mm_text_L47 hcx  eFu w hK_2) (eLe_wk ⟨e0, trivial⟩)
  cases hK
end
set_option maxRecDepth 100000 in
set_option maxHeartbeats 4000000 in
theorem ok_mm_text {l : Launch} {ad : Nat → Nat} {D : va_G} {cA : Nat → ClassId} {ρ : Type} (as : List Value) (w : eW) (k : Option Value → eW → Option ρ) (x : ρ) (h : K_mm_text as w k = some x) : ∃ (v : Option Value) (w2 : eW), k v w2 = some x ∧ eMet l ad D cA vwCl SHm SSm yX12_text (eWd yX12_text cX12_text 2 (some .int)) { frames := 6, cells := 0, slots := 0, locals := 132 } as w v w2 := by
  unfold K_mm_text at h
  split at h
  · rename_i r0
    obtain ⟨h1, h5⟩ := eBif h
    clear h
    have h := h5
    clear h5
    have h1 := Nat.eq_of_beq_eq_true h1
    subst h1
    obtain ⟨q, h2, h3⟩ := Option.bind_eq_some_iff.mp h
    exact ⟨_, _, h3, eMet_of (by decide +kernel) rfl (by simp [eCat, Value.category]) rI_ret (fun p e s m args below meth c hcx => go_mm_text hcx w q h2)⟩
  · cases h
