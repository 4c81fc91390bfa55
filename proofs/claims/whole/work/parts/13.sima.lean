theorem ft_tyall : (List.range 11).all (fun ci => (List.range (NC ci)).all (fun k => decide (tycode (tyC ci k) = ftT ci k))) = true := by decide +kernel
theorem ft_ty (ci : Nat) (hc : ci ≤ 10) (k : Nat) (hk : k < NC ci) : tycode (tyC ci k) = ftT ci k := of_decide_eq_true (List.all_eq_true.mp (List.all_eq_true.mp ft_tyall ci (List.mem_range.mpr (by omega))) k (List.mem_range.mpr hk))
/-! rows: places, lengths; new cells -/
section SIMA
variable {p : Program} {l : Launch} {e : Env} {R : Room} {s : State} {m : MethodId} {args : Array Value} {below : List Frame} {meth : Method} {c : Code} {Zf : State → Prop} {M : MRec} {B sb Lx : Nat} {xs : Nat → Int32} {D : va_G} {cI cJ cZ : ClassId} {d : Nat} {n0 b0 : Int}
theorem okc_row {n : Int} {kd : Nat} {k v : Int} (h : okc n kd k v) : (kd = 11 → in32 v) ∧ (kd = 12 → in64 v) ∧ (kd = 13 → isBit v) := by
  unfold okc at h
  refine ⟨fun e => ?_, fun e => ?_, fun e => ?_⟩
  · rw [if_pos e] at h; exact h
  · rw [if_neg (by omega), if_pos e] at h; exact h
  · rw [if_neg (by omega), if_neg (by omega), if_pos e] at h; exact h
theorem arlen_nn (E : PvEnv) {r : Int} (h : 0 ≤ r) : arlen E r = shN r := by unfold arlen; rw [if_neg (by omega)]
theorem arlen_s (E : PvEnv) : arlen E (-2) = E (-2) 0 := rfl
/-- the place of a row -/
theorem in_small {r i : Int} (h : i < shN r) (h0 : 0 ≤ i) : in32 i ∧ i < ((shN r).toNat : Int) := by
  have := shN_nn r
  unfold in32
  omega
theorem sa_ild (C : Cx p R s m args meth c M B sb Lx xs D cI cJ cZ d n0) {E : PvEnv} {pc : Nat} {L S : List PV} {h : Hp} {r i : Int} (hd : decode (mC M) pc = .ok (.iaload, 1)) (ha : shK r = 11) (h0 : 0 ≤ r) (hi0 : 0 ≤ i) (hi : i < shN r) (hk : SimP p l e R s m args below meth c Zf M B sb Lx xs D cI cJ cZ n0 b0 (pc + 1) L ((0, h r i) :: S) h) : SimP p l e R s m args below meth c Zf M B sb Lx xs D cI cJ cZ n0 b0 pc L ((0, i) :: (2, r) :: S) h := by
  obtain ⟨hx, hb, hml, hown, hts, hnw, hK, hX, hR, hnm⟩ := C
  intro H locs cells slots ls hH hS hL hO hc hsc
  obtain ⟨g0, gP, gz, gO⟩ := hH
  have han : r < h (-3) 0 := okv_ref (hO _ (List.mem_cons_of_mem _ List.mem_cons_self)) h0
  have hq : r.toNat < (h (-3) 0).toNat := by omega
  have hcast : ((r.toNat : Nat) : Int) = r := Int.toNat_of_nonneg h0
  have hok := gO r i h0 han hi0 hi
  obtain ⟨i1, i2⟩ := in_small hi hi0
  have he := wsH_at B sb cI cJ cZ h hq
  rw [hcast, celE_i (by rw [hcast]; exact ha), hcast] at he
  have K := hk H locs cells slots ls ⟨g0, gP, gz, gO⟩ hS hL (okS_cons (show okv (h (-3) 0) (0, h r i) from (okc_row hok).1 ha) (fun u hu => hO u (List.mem_cons_of_mem _ (List.mem_cons_of_mem _ hu)))) hc hsc
  simp only [List.map_cons] at K ⊢
  rw [vl_ref h0]
  refine va_iald hx hb hK gP r.toNat 0 he rfl (o_vpin i1 hi0 i2) hd ?_
  rw [o_clamp hi0 i1, Int.toNat_of_nonneg hi0]
  exact K
theorem sa_lld (C : Cx p R s m args meth c M B sb Lx xs D cI cJ cZ d n0) {E : PvEnv} {pc : Nat} {L S : List PV} {h : Hp} {r i : Int} (hd : decode (mC M) pc = .ok (.laload, 1)) (ha : shK r = 12) (h0 : 0 ≤ r) (hi0 : 0 ≤ i) (hi : i < shN r) (hk : SimP p l e R s m args below meth c Zf M B sb Lx xs D cI cJ cZ n0 b0 (pc + 1) L ((1, h r i) :: S) h) : SimP p l e R s m args below meth c Zf M B sb Lx xs D cI cJ cZ n0 b0 pc L ((0, i) :: (2, r) :: S) h := by
  obtain ⟨hx, hb, hml, hown, hts, hnw, hK, hX, hR, hnm⟩ := C
  intro H locs cells slots ls hH hS hL hO hc hsc
  obtain ⟨g0, gP, gz, gO⟩ := hH
  have han : r < h (-3) 0 := okv_ref (hO _ (List.mem_cons_of_mem _ List.mem_cons_self)) h0
  have hq : r.toNat < (h (-3) 0).toNat := by omega
  have hcast : ((r.toNat : Nat) : Int) = r := Int.toNat_of_nonneg h0
  have hok := gO r i h0 han hi0 hi
  obtain ⟨i1, i2⟩ := in_small hi hi0
  have he := wsH_at B sb cI cJ cZ h hq
  rw [hcast, celE_l (by rw [hcast]; exact ha), hcast] at he
  have K := hk H locs cells slots ls ⟨g0, gP, gz, gO⟩ hS hL (okS_cons (show okv (h (-3) 0) (1, h r i) from (okc_row hok).2.1 ha) (fun u hu => hO u (List.mem_cons_of_mem _ (List.mem_cons_of_mem _ hu)))) hc hsc
  simp only [List.map_cons] at K ⊢
  rw [vl_ref h0]
  refine va_lald hx hb hK gP r.toNat 1 he rfl (o_vpin i1 hi0 i2) hd ?_
  rw [o_clamp hi0 i1, Int.toNat_of_nonneg hi0]
  exact K
theorem sa_zld (C : Cx p R s m args meth c M B sb Lx xs D cI cJ cZ d n0) {E : PvEnv} {pc : Nat} {L S : List PV} {h : Hp} {r i : Int} (hd : decode (mC M) pc = .ok (.baload, 1)) (ha : shK r = 13) (h0 : 0 ≤ r) (hi0 : 0 ≤ i) (hi : i < shN r) (hk : SimP p l e R s m args below meth c Zf M B sb Lx xs D cI cJ cZ n0 b0 (pc + 1) L ((0, h r i) :: S) h) : SimP p l e R s m args below meth c Zf M B sb Lx xs D cI cJ cZ n0 b0 pc L ((0, i) :: (2, r) :: S) h := by
  obtain ⟨hx, hb, hml, hown, hts, hnw, hK, hX, hR, hnm⟩ := C
  intro H locs cells slots ls hH hS hL hO hc hsc
  obtain ⟨g0, gP, gz, gO⟩ := hH
  have han : r < h (-3) 0 := okv_ref (hO _ (List.mem_cons_of_mem _ List.mem_cons_self)) h0
  have hq : r.toNat < (h (-3) 0).toNat := by omega
  have hcast : ((r.toNat : Nat) : Int) = r := Int.toNat_of_nonneg h0
  have hok := gO r i h0 han hi0 hi
  obtain ⟨i1, i2⟩ := in_small hi hi0
  have he := wsH_at B sb cI cJ cZ h hq
  rw [hcast, celE_z (by rw [hcast]; exact ha), hcast] at he
  have K := hk H locs cells slots ls ⟨g0, gP, gz, gO⟩ hS hL (okS_cons (show okv (h (-3) 0) (0, h r i) from bit_in ((okc_row hok).2.2 ha)) (fun u hu => hO u (List.mem_cons_of_mem _ (List.mem_cons_of_mem _ hu)))) hc hsc
  simp only [List.map_cons] at K ⊢
  rw [vl_ref h0]
  refine va_zald hx hb hK gP r.toNat 2 he rfl (o_vpin i1 hi0 i2) hd ?_
  rw [o_clamp hi0 i1, Int.toNat_of_nonneg hi0]
  exact K
theorem sa_sld (C : Cx p R s m args meth c M B sb Lx xs D cI cJ cZ d n0) {pc : Nat} {L S : List PV} {h : Hp} {i : Int} (hd : decode (mC M) pc = .ok (.iaload, 1)) (hi0 : 0 ≤ i) (hi : i < (Lx : Int)) (hk : SimP p l e R s m args below meth c Zf M B sb Lx xs D cI cJ cZ n0 b0 (pc + 1) L ((0, h (-2) i) :: S) h) : SimP p l e R s m args below meth c Zf M B sb Lx xs D cI cJ cZ n0 b0 pc L ((0, i) :: (2, -2) :: S) h := by
  obtain ⟨hx, hb, hml, hown, hts, hnw, hK, hX, hR, hnm⟩ := C
  intro H locs cells slots ls hH hS hL hO hc hsc
  have i1 : in32 i := by have := hX.2.2.2; unfold in32; omega
  have hcast : ((i.toNat : Nat) : Int) = i := Int.toNat_of_nonneg hi0
  obtain ⟨s1, s2⟩ := hsc i.toNat (by omega)
  rw [hcast] at s1 s2
  have K := hk H locs cells slots ls hH hS hL (okS_cons (show okv (h (-3) 0) (0, h (-2) i) from s2) (fun u hu => hO u (List.mem_cons_of_mem _ (List.mem_cons_of_mem _ hu)))) hc hsc
  refine va_sld (b := sb) (A := fun q => B ≤ q) hx hb hX.1 (by have := hX.2.1; have := hX.2.2.1.1; omega) (Nat.not_le.mpr hX.2.1) hS (o_vpin i1 hi0 hi) hd ?_
  rw [o_clamp hi0 i1, s1]
  exact K
theorem sa_ist (C : Cx p R s m args meth c M B sb Lx xs D cI cJ cZ d n0) {pc : Nat} {L S : List PV} {h : Hp} {r i v : Int} (hd : decode (mC M) pc = .ok (.iastore, 1)) (ha : shK r = 11) (h0 : 0 ≤ r) (hi0 : 0 ≤ i) (hi : i < shN r) (hk : SimP p l e R s m args below meth c Zf M B sb Lx xs D cI cJ cZ n0 b0 (pc + 1) L S (hst h r i v)) : SimP p l e R s m args below meth c Zf M B sb Lx xs D cI cJ cZ n0 b0 pc L ((0, v) :: (0, i) :: (2, r) :: S) h := by
  obtain ⟨hx, hb, hml, hown, hts, hnw, hK, hX, hR, hnm⟩ := C
  intro H locs cells slots ls hH hS hL hO hc hsc
  obtain ⟨g0, gP, gz, gO⟩ := hH
  have hv : in32 v := hO _ List.mem_cons_self
  have han : r < h (-3) 0 := okv_ref (hO _ (List.mem_cons_of_mem _ (List.mem_cons_of_mem _ List.mem_cons_self))) h0
  have hq : r.toNat < (h (-3) 0).toNat := by omega
  have hcast : ((r.toNat : Nat) : Int) = r := Int.toNat_of_nonneg h0
  obtain ⟨i1, i2⟩ := in_small hi hi0
  have he := wsH_at B sb cI cJ cZ h hq
  rw [hcast, celE_i (by rw [hcast]; exact ha), hcast] at he
  have hfun : (upd (fun k : Nat => Int32.ofInt (h r k)) i.toNat (Int32.ofInt v)) = fun k : Nat => Int32.ofInt (hst h r i v r k) := by
    funext k
    unfold upd hst
    by_cases hk2 : k = i.toNat
    · rw [if_pos hk2, if_pos (by omega)]
    · rw [if_neg hk2, if_neg (by omega)]
  have hset : (wsH B sb cI cJ cZ (h (-3) 0).toNat h).set r.toNat (B + r.toNat, .inl (cI, (shN r).toNat, .inl (upd (fun k : Nat => Int32.ofInt (h r k)) i.toNat (Int32.ofInt v)))) = wsH B sb cI cJ cZ (h (-3) 0).toNat (hst h r i v) := by
    rw [← wsH_set B sb cI cJ cZ (h := h) (h' := hst h r i v) hq (fun j hj => hst_off h (by omega)), hcast, celE_i (by rw [hcast]; exact ha), hcast, hfun]
  have e3 : hst h r i v (-3) 0 = h (-3) 0 := hst_m3 h h0
  simp only [List.map_cons]
  rw [vl_ref h0]
  refine va_iast hx hb hK gP (wsH_D B sb cI cJ cZ (h (-3) 0).toNat h) hS r.toNat 0 he rfl (o_vpin i1 hi0 i2) hd (fun H1 locs1 h1 _ h4 => ?_)
  rw [o_clamp hi0 i1, hset] at h1
  refine W_size g0 hX.2.2.1 h1 h4 hc.1 (fun hz => ?_)
  refine hk H1 locs1 cells slots ls ⟨by rw [e3]; exact g0, by rw [e3]; exact h1, by rw [e3]; exact hz, okH_st gO h0 (by unfold okc; rw [if_pos ha]; exact hv)⟩ h4 ?_ ?_ ?_ (scr_st hsc h0)
  · rw [e3]; exact hL
  · rw [e3]; exact fun u hu => hO u (List.mem_cons_of_mem _ (List.mem_cons_of_mem _ (List.mem_cons_of_mem _ hu)))
  · rw [e3, hst_m3 h h0]; exact hc
theorem sa_lst (C : Cx p R s m args meth c M B sb Lx xs D cI cJ cZ d n0) {pc : Nat} {L S : List PV} {h : Hp} {r i v : Int} (hd : decode (mC M) pc = .ok (.lastore, 1)) (ha : shK r = 12) (h0 : 0 ≤ r) (hi0 : 0 ≤ i) (hi : i < shN r) (hk : SimP p l e R s m args below meth c Zf M B sb Lx xs D cI cJ cZ n0 b0 (pc + 1) L S (hst h r i v)) : SimP p l e R s m args below meth c Zf M B sb Lx xs D cI cJ cZ n0 b0 pc L ((1, v) :: (0, i) :: (2, r) :: S) h := by
  obtain ⟨hx, hb, hml, hown, hts, hnw, hK, hX, hR, hnm⟩ := C
  intro H locs cells slots ls hH hS hL hO hc hsc
  obtain ⟨g0, gP, gz, gO⟩ := hH
  have hv : in64 v := hO _ List.mem_cons_self
  have han : r < h (-3) 0 := okv_ref (hO _ (List.mem_cons_of_mem _ (List.mem_cons_of_mem _ List.mem_cons_self))) h0
  have hq : r.toNat < (h (-3) 0).toNat := by omega
  have hcast : ((r.toNat : Nat) : Int) = r := Int.toNat_of_nonneg h0
  obtain ⟨i1, i2⟩ := in_small hi hi0
  have he := wsH_at B sb cI cJ cZ h hq
  rw [hcast, celE_l (by rw [hcast]; exact ha), hcast] at he
  have hfun : (vp_updL (fun k : Nat => Int64.ofInt (h r k)) i.toNat (Int64.ofInt v)) = fun k : Nat => Int64.ofInt (hst h r i v r k) := by
    funext k
    unfold vp_updL hst
    by_cases hk2 : k = i.toNat
    · rw [if_pos hk2, if_pos (by omega)]
    · rw [if_neg hk2, if_neg (by omega)]
  have hset : (wsH B sb cI cJ cZ (h (-3) 0).toNat h).set r.toNat (B + r.toNat, .inl (cJ, (shN r).toNat, .inr (.inl (vp_updL (fun k : Nat => Int64.ofInt (h r k)) i.toNat (Int64.ofInt v))))) = wsH B sb cI cJ cZ (h (-3) 0).toNat (hst h r i v) := by
    rw [← wsH_set B sb cI cJ cZ (h := h) (h' := hst h r i v) hq (fun j hj => hst_off h (by omega)), hcast, celE_l (by rw [hcast]; exact ha), hcast, hfun]
  have e3 : hst h r i v (-3) 0 = h (-3) 0 := hst_m3 h h0
  simp only [List.map_cons]
  rw [vl_ref h0]
  refine va_last hx hb hK gP (wsH_D B sb cI cJ cZ (h (-3) 0).toNat h) hS r.toNat 1 he rfl (o_vpin i1 hi0 i2) hd (fun H1 locs1 h1 _ h4 => ?_)
  rw [o_clamp hi0 i1, hset] at h1
  refine W_size g0 hX.2.2.1 h1 h4 hc.1 (fun hz => ?_)
  refine hk H1 locs1 cells slots ls ⟨by rw [e3]; exact g0, by rw [e3]; exact h1, by rw [e3]; exact hz, okH_st gO h0 (by unfold okc; rw [if_neg (by omega), if_pos ha]; exact hv)⟩ h4 ?_ ?_ ?_ (scr_st hsc h0)
  · rw [e3]; exact hL
  · rw [e3]; exact fun u hu => hO u (List.mem_cons_of_mem _ (List.mem_cons_of_mem _ (List.mem_cons_of_mem _ hu)))
  · rw [e3, hst_m3 h h0]; exact hc
theorem sa_zst (C : Cx p R s m args meth c M B sb Lx xs D cI cJ cZ d n0) {pc : Nat} {L S : List PV} {h : Hp} {r i v : Int} (hd : decode (mC M) pc = .ok (.bastore, 1)) (ha : shK r = 13) (h0 : 0 ≤ r) (hi0 : 0 ≤ i) (hi : i < shN r) (hbit : isBit v) (hk : SimP p l e R s m args below meth c Zf M B sb Lx xs D cI cJ cZ n0 b0 (pc + 1) L S (hst h r i v)) : SimP p l e R s m args below meth c Zf M B sb Lx xs D cI cJ cZ n0 b0 pc L ((0, v) :: (0, i) :: (2, r) :: S) h := by
  obtain ⟨hx, hb, hml, hown, hts, hnw, hK, hX, hR, hnm⟩ := C
  intro H locs cells slots ls hH hS hL hO hc hsc
  obtain ⟨g0, gP, gz, gO⟩ := hH
  have hv : in32 v := hO _ List.mem_cons_self
  have han : r < h (-3) 0 := okv_ref (hO _ (List.mem_cons_of_mem _ (List.mem_cons_of_mem _ List.mem_cons_self))) h0
  have hq : r.toNat < (h (-3) 0).toNat := by omega
  have hcast : ((r.toNat : Nat) : Int) = r := Int.toNat_of_nonneg h0
  obtain ⟨i1, i2⟩ := in_small hi hi0
  have he := wsH_at B sb cI cJ cZ h hq
  rw [hcast, celE_z (by rw [hcast]; exact ha), hcast] at he
  have hfun : (upd (fun k : Nat => Int32.ofInt (h r k)) i.toNat (vp_nar .boolean (Int32.ofInt v))) = fun k : Nat => Int32.ofInt (hst h r i v r k) := by
    funext k
    unfold upd hst
    by_cases hk2 : k = i.toNat
    · rw [if_pos hk2, if_pos (by omega)]; exact bit_nar hbit
    · rw [if_neg hk2, if_neg (by omega)]
  have hset : (wsH B sb cI cJ cZ (h (-3) 0).toNat h).set r.toNat (B + r.toNat, .inl (cZ, (shN r).toNat, .inl (upd (fun k : Nat => Int32.ofInt (h r k)) i.toNat (vp_nar .boolean (Int32.ofInt v))))) = wsH B sb cI cJ cZ (h (-3) 0).toNat (hst h r i v) := by
    rw [← wsH_set B sb cI cJ cZ (h := h) (h' := hst h r i v) hq (fun j hj => hst_off h (by omega)), hcast, celE_z (by rw [hcast]; exact ha), hcast, hfun]
  have e3 : hst h r i v (-3) 0 = h (-3) 0 := hst_m3 h h0
  simp only [List.map_cons]
  rw [vl_ref h0]
  refine va_zast hx hb hK gP (wsH_D B sb cI cJ cZ (h (-3) 0).toNat h) hS r.toNat 2 he rfl (o_vpin i1 hi0 i2) hd (fun H1 locs1 h1 _ h4 => ?_)
  rw [o_clamp hi0 i1, hset] at h1
  refine W_size g0 hX.2.2.1 h1 h4 hc.1 (fun hz => ?_)
  refine hk H1 locs1 cells slots ls ⟨by rw [e3]; exact g0, by rw [e3]; exact h1, by rw [e3]; exact hz, okH_st gO h0 (by unfold okc; rw [if_neg (by omega), if_neg (by omega), if_pos ha]; exact hbit)⟩ h4 ?_ ?_ ?_ (scr_st hsc h0)
  · rw [e3]; exact hL
  · rw [e3]; exact fun u hu => hO u (List.mem_cons_of_mem _ (List.mem_cons_of_mem _ (List.mem_cons_of_mem _ hu)))
  · rw [e3, hst_m3 h h0]; exact hc
theorem sa_len (C : Cx p R s m args meth c M B sb Lx xs D cI cJ cZ d n0) {pc : Nat} {L S : List PV} {h : Hp} {r : Int} (hd : decode (mC M) pc = .ok (.arraylength, 1)) (ha1 : 11 ≤ shK r) (ha2 : shK r ≤ 13) (h0 : 0 ≤ r) (hk : SimP p l e R s m args below meth c Zf M B sb Lx xs D cI cJ cZ n0 b0 (pc + 1) L ((0, shN r) :: S) h) : SimP p l e R s m args below meth c Zf M B sb Lx xs D cI cJ cZ n0 b0 pc L ((2, r) :: S) h := by
  obtain ⟨hx, hb, hml, hown, hts, hnw, hK, hX, hR, hnm⟩ := C
  intro H locs cells slots ls hH hS hL hO hc hsc
  obtain ⟨g0, gP, gz, gO⟩ := hH
  have han : r < h (-3) 0 := okv_ref (hO _ List.mem_cons_self) h0
  have hq : r.toNat < (h (-3) 0).toNat := by omega
  have hcast : ((r.toNat : Nat) : Int) = r := Int.toNat_of_nonneg h0
  have hn := shN_nn r
  have he := wsH_at B sb cI cJ cZ h hq
  rw [hcast] at he
  have K := hk H locs cells slots ls ⟨g0, gP, gz, gO⟩ hS hL (okS_cons (show okv (h (-3) 0) (0, shN r) from (by show in32 _; unfold in32; omega)) (fun u hu => hO u (List.mem_cons_of_mem _ hu))) hc hsc
  simp only [List.map_cons] at K ⊢
  rw [vl_ref h0]
  have hv : Int32.ofNat (shN r).toNat = Int32.ofInt (shN r) := by rw [← Int32.ofInt_eq_ofNat, Int.toNat_of_nonneg hn.1]
  rcases (show shK r = 11 ∨ shK r = 12 ∨ shK r = 13 by omega) with e | e | e
  · rw [celE_i (by rw [hcast]; exact e), hcast] at he
    exact va_alen hx hb hK gP r.toNat 0 he rfl hv hd K
  · rw [celE_l (by rw [hcast]; exact e), hcast] at he
    exact va_alen hx hb hK gP r.toNat 1 he rfl hv hd K
  · rw [celE_z (by rw [hcast]; exact e), hcast] at he
    exact va_alen hx hb hK gP r.toNat 2 he rfl hv hd K
theorem sa_slen (C : Cx p R s m args meth c M B sb Lx xs D cI cJ cZ d n0) {pc : Nat} {L S : List PV} {h : Hp} (hd : decode (mC M) pc = .ok (.arraylength, 1)) (hk : SimP p l e R s m args below meth c Zf M B sb Lx xs D cI cJ cZ n0 b0 (pc + 1) L ((0, (Lx : Int)) :: S) h) : SimP p l e R s m args below meth c Zf M B sb Lx xs D cI cJ cZ n0 b0 pc L ((2, -2) :: S) h := by
  obtain ⟨hx, hb, hml, hown, hts, hnw, hK, hX, hR, hnm⟩ := C
  intro H locs cells slots ls hH hS hL hO hc hsc
  have K := hk H locs cells slots ls hH hS hL (okS_cons (show okv (h (-3) 0) (0, (Lx : Int)) from (by show in32 _; have := hX.2.2.2; unfold in32; omega)) (fun u hu => hO u (List.mem_cons_of_mem _ hu))) hc hsc
  refine va_slen (b := sb) (A := fun q => B ≤ q) hx hb hX.1 (by have := hX.2.1; have := hX.2.2.1.1; omega) (Nat.not_le.mpr hX.2.1) hS hd ?_
  rw [← Int32.ofInt_eq_ofNat]
  exact K
theorem hnew_m30 (h : Hp) (f : Int → Int) (n : Int) : hnew h f n (-3) 0 = h (-3) 0 + 1 := by unfold hnew; rw [if_pos (by omega)]
theorem hnew_m31 (h : Hp) (f : Int → Int) (n : Int) : hnew h f n (-3) 1 = h (-3) 1 + n := by unfold hnew; rw [if_neg (by omega), if_pos (by omega)]
theorem hnew_old (h : Hp) (f : Int → Int) (n : Int) {a : Int} (h1 : a ≠ -3) (h2 : a ≠ h (-3) 0) : hnew h f n a = h a := by funext i; unfold hnew; rw [if_neg (by omega), if_neg (by omega), if_neg h2]
theorem hnew_new (h : Hp) (f : Int → Int) (n : Int) (h0 : 0 ≤ h (-3) 0) : hnew h f n (h (-3) 0) = f := by funext i; unfold hnew; rw [if_neg (by omega), if_neg (by omega), if_pos rfl]
theorem okH_new {h : Hp} (ho : okH h) (h0 : 0 ≤ h (-3) 0) {f : Int → Int} {n : Int} (hf : ∀ k : Int, 0 ≤ k → k < shN (h (-3) 0) → okc (h (-3) 0 + 1) (shK (h (-3) 0)) k (f k)) : okH (hnew h f n) := by
  intro j k h1 h2 h3 h4
  rw [hnew_m30] at h2 ⊢
  by_cases e : j = h (-3) 0
  · rw [e, hnew_new h f n h0]
    exact hf k h3 (by rw [← e]; exact h4)
  · rw [hnew_old h f n (by omega) e]
    exact okc_mono (by omega) (ho j k h1 (by omega) h3 h4)
theorem LRel.mono {nL : Nat} {k k' : Int} {L : List PV} {ls : Array Slot} (hk : k ≤ k') (h : LRel B sb nL k L ls) : LRel B sb nL k' L ls := ⟨h.1, fun v hv => (h.2.1 v hv).imp id (okv_mono hk), h.2.2⟩
theorem scr_new {h : Hp} (hs : ScrOK Lx xs h) (h0 : 0 ≤ h (-3) 0) (f : Int → Int) (n : Int) : ScrOK Lx xs (hnew h f n) := fun k hk => by rw [hnew_old h f n (by omega) (by omega)]; exact hs k hk

theorem sa_new (C : Cx p R s m args meth c M B sb Lx xs D cI cJ cZ d n0) {E : PvEnv} (hlim : mMc M ≠ 0 → E (-3) 1 = n0 + mMc M ∧ E (-3) 2 = b0 + mMs M) {pc idx ci : Nat} {L S : List PV} {h : Hp} (hd : decode (mC M) pc = .ok (.new idx, 3)) (hn : newT (mO M) idx = some ci) (hs : shK (h (-3) 0) = ci) (hm : mMc M ≠ 0) (hl1 : h (-3) 0 + 1 ≤ E (-3) 1) (hl2 : h (-3) 1 + shN (h (-3) 0) ≤ E (-3) 2) (hk : SimP p l e R s m args below meth c Zf M B sb Lx xs D cI cJ cZ n0 b0 (pc + 3) L ((2, h (-3) 0) :: S) (hnew h (fun i => if ftT ci i.toNat = 2 then -1 else 0) (shN (h (-3) 0)))) : SimP p l e R s m args below meth c Zf M B sb Lx xs D cI cJ cZ n0 b0 pc L S h := by
  obtain ⟨hx, hb, hml, hown, hts, hnw, hK, hX, hR, hnm⟩ := C
  intro H locs cells slots ls hH hS hL hO hc hsc
  obtain ⟨g0, gP, gz, gO⟩ := hH
  obtain ⟨w1, w2, w3, w4⟩ := new_ok hn
  obtain ⟨l1, l2⟩ := hlim hm
  obtain ⟨-, -, r3, r4⟩ := hR
  have hN : shN (h (-3) 0) = (NC ci : Int) := shN_obj hs w4
  have hcast : (((h (-3) 0).toNat : Nat) : Int) = h (-3) 0 := Int.toNat_of_nonneg g0
  have hKn := hK.1 ci _ (vw_at ci w4)
  refine W.newcK (g := F0 m pc ls (S.map (vl B sb))) hx hb hown (hts _ w1) (hts _ w2) (hts _ w3) rfl hd (by omega) (by omega) hKn.2.1 gz (fun H1 kC hkC e1 z1 o1 => ?_)
  have hold : ∀ (k : Nat) (x : Nat × va_E), (wsH B sb cI cJ cZ (h (-3) 0).toNat h)[k]? = some x → H1[x.1]? = H[x.1]? := fun k x hx => o1 x.1 (by rw [← gz]; exact (gP k x hx).lt)
  have hP1 : va_P D vwCl (wsH B sb cI cJ cZ ((h (-3) 0).toNat + 1) (hnew h (fun i => if ftT ci i.toNat = 2 then -1 else 0) (shN (h (-3) 0)))) H1 := by
    rw [wsH_push B sb cI cJ cZ (h := h) (fun i hi => hnew_old h _ _ (by omega) (by omega))]
    refine (gP.kept hold).app (fun k x hx => ?_)
    have hz : k < 1 := (List.getElem?_eq_some_iff.mp hx).1
    rw [show k = 0 by omega] at hx
    cases hx
    rw [celE_o (by rw [hcast]; exact hs) w4]
    refine ⟨_, vw_at ci w4, (u_born (tyC ci) hts (in_TCg w4) hKn hkC e1 (ty_TC ci w4)).to (fun j hj => ?_)⟩
    rw [hcast, hnew_new h _ _ g0]
    show defaultValue (tyC ci j) = vp_V _ j
    unfold vp_V
    rw [List.getD_eq_getElem?_getD, List.getElem?_map, List.getElem?_range (by rw [hN]; exact hj)]
    show _ = vl B sb (ftg (ftT ci j), if ftT ci (j : Int).toNat = 2 then -1 else 0)
    rw [Int.toNat_natCast]
    have ht := ft_ty ci w4 j hj
    have h3 := ft_le ci j
    rw [← ht]
    cases htt : tyC ci j with
    | int => rfl
    | long => rfl
    | boolean => rfl
    | object s => rfl
    | array s => rfl
    | _ => rw [← ht, htt] at h3; exact absurd h3 (by decide)
  have e3 : hnew h (fun i => if ftT ci i.toNat = 2 then -1 else 0) (shN (h (-3) 0)) (-3) 0 = h (-3) 0 + 1 := hnew_m30 _ _ _
  have e4 : (h (-3) 0 + 1).toNat = (h (-3) 0).toNat + 1 := by omega
  have hO1 : okH (hnew h (fun i => if ftT ci i.toNat = 2 then -1 else 0) (shN (h (-3) 0))) := by
    refine okH_new gO g0 (fun k k0 k1 => ?_)
    rw [hs]
    refine okv_okc w4 ?_ ?_ ?_
    · have h3 := ft_le ci k.toNat
      unfold ftg
      by_cases z3 : ftT ci k.toNat = 3
      · rw [if_pos z3, if_neg (by omega)]; show in32 0; unfold in32; omega
      · rw [if_neg z3]
        by_cases z2 : ftT ci k.toNat = 2
        · rw [if_pos z2, z2]; exact Or.inr (Or.inl rfl)
        · rw [if_neg z2]
          rcases (show ftT ci k.toNat = 0 ∨ ftT ci k.toNat = 1 by omega) with z | z
          · rw [z]; show in32 0; unfold in32; omega
          · rw [z]; show in64 0; unfold in64; omega
    · intro z; rw [if_neg (by omega)]; exact Or.inl rfl
    · intro z; rw [if_pos z]; decide
  have K := hk H1 locs (cells + 1) (slots + NC ci) ls ⟨by rw [e3]; omega, by rw [e3, e4]; exact hP1, by rw [e3, e4]; omega, hO1⟩ ⟨Nat.le_trans hS.1 (by omega), fun x h1 h2 => (o1 x (by rw [← gz]; exact Nat.lt_of_lt_of_le h1 hS.1)).trans (hS.2.1 x h1 h2), hS.2.2⟩ (by rw [e3]; exact hL.mono (by omega)) (by rw [e3]; exact okS_cons (show okv (h (-3) 0 + 1) (2, h (-3) 0) from Or.inr (Or.inr ⟨g0, by show h (-3) 0 < h (-3) 0 + 1; omega⟩)) (fun u hu => okv_mono (by omega) (hO u hu))) (by rw [e3, hnew_m31]; omega) (scr_new hsc g0 _ _)
  simp only [List.map_cons] at K
  rw [vl_ref g0] at K
  exact K
theorem sa_newa (C : Cx p R s m args meth c M B sb Lx xs D cI cJ cZ d n0) {E : PvEnv} (hlim : mMc M ≠ 0 → E (-3) 1 = n0 + mMc M ∧ E (-3) 2 = b0 + mMs M) {pc : Nat} {ty : ArrayType} {n : Int} {L S : List PV} {h : Hp} (hd : decode (mC M) pc = .ok (.newarray ty, 2)) (hs : shK (h (-3) 0) = atyK ty) (ht : atyK ty ≤ 13) (hn : shN (h (-3) 0) = n) (hn0 : 0 ≤ n) (hm : mMc M ≠ 0) (hl1 : h (-3) 0 + 1 ≤ E (-3) 1) (hl2 : h (-3) 1 + n ≤ E (-3) 2) (hk : SimP p l e R s m args below meth c Zf M B sb Lx xs D cI cJ cZ n0 b0 (pc + 2) L ((2, h (-3) 0) :: S) (hnew h (fun _ => 0) n)) : SimP p l e R s m args below meth c Zf M B sb Lx xs D cI cJ cZ n0 b0 pc L ((0, n) :: S) h := by
  obtain ⟨hx, hb, hml, hown, hts, hnw, hK, hX, hR, hnm⟩ := C
  intro H locs cells slots ls hH hS hL hO hc hsc
  obtain ⟨g0, gP, gz, gO⟩ := hH
  obtain ⟨l1, l2⟩ := hlim hm
  obtain ⟨-, -, r3, r4⟩ := hR
  have hcast : (((h (-3) 0).toNat : Nat) : Int) = h (-3) 0 := Int.toNat_of_nonneg g0
  have hsm := shN_nn (h (-3) 0)
  rw [hn] at hsm
  have i1 : in32 n := by unfold in32; omega
  have harr : (Cond.arrayClass (newarray.typeOf ty)).before args s = true := by
    cases ty with
    | int => exact hts _ ac_int
    | long => exact hts _ ac_long
    | boolean => exact hts _ ac_bool
    | _ => exact absurd ht (by decide)
  have hbytes : n.toNat * componentBytes (newarray.typeOf ty) ≤ 536870912 := by
    have : componentBytes (newarray.typeOf ty) ≤ 8 := by cases ty <;> decide
    have h2 : n.toNat ≤ 2000 := by omega
    calc n.toNat * componentBytes (newarray.typeOf ty) ≤ 2000 * 8 := Nat.mul_le_mul h2 this
      _ ≤ 536870912 := by decide
  simp only [List.map_cons]
  refine va_newaK (g := F0 m pc ls (vl B sb (0, n) :: S.map (vl B sb))) hx hb harr rfl hd rfl (fun q => absurd ((o_lt i1 (show in32 0 by unfold in32; omega)).mp q) (by omega)) (o_clamp hn0 i1) hbytes (by omega) (by omega) gz (fun H1 cA e1 z1 o1 hAr hNm => ?_)
  have hold : ∀ (k : Nat) (x : Nat × va_E), (wsH B sb cI cJ cZ (h (-3) 0).toNat h)[k]? = some x → H1[x.1]? = H[x.1]? := fun k x hx => o1 x.1 (by rw [← gz]; exact (gP k x hx).lt)
  have hP1 : va_P D vwCl (wsH B sb cI cJ cZ ((h (-3) 0).toNat + 1) (hnew h (fun _ => 0) n)) H1 := by
    rw [wsH_push B sb cI cJ cZ (h := h) (fun i hi => hnew_old h _ _ (by omega) (by omega))]
    refine (gP.kept hold).app (fun k x hx => ?_)
    have hz : k < 1 := (List.getElem?_eq_some_iff.mp hx).1
    rw [show k = 0 by omega] at hx
    cases hx
    rw [hcast, hnew_new h _ _ g0]
    cases ty with
    | int =>
      have hc1 : cA = cI := Option.some.inj (hNm.symm.trans (hK.2 0 _ rfl).2)
      rw [celE_i (by rw [hcast]; exact hs), hcast, hn]
      subst hc1
      exact e1
    | long =>
      have hc1 : cA = cJ := Option.some.inj (hNm.symm.trans (hK.2 1 _ rfl).2)
      rw [celE_l (by rw [hcast]; exact hs), hcast, hn]
      subst hc1
      exact e1
    | boolean =>
      have hc1 : cA = cZ := Option.some.inj (hNm.symm.trans (hK.2 2 _ rfl).2)
      rw [celE_z (by rw [hcast]; exact hs), hcast, hn]
      subst hc1
      exact e1
    | _ => exact absurd ht (by decide)
  have e3 : hnew h (fun _ => 0) n (-3) 0 = h (-3) 0 + 1 := hnew_m30 _ _ _
  have e4 : (h (-3) 0 + 1).toNat = (h (-3) 0).toNat + 1 := by omega
  have hO1 : okH (hnew h (fun _ => 0) n) := by
    refine okH_new gO g0 (fun k k0 k1 => ?_)
    rw [hs]
    cases ty with
    | int => show in32 0; unfold in32; omega
    | long => show in64 0; unfold in64; omega
    | boolean => exact Or.inl rfl
    | _ => exact absurd ht (by decide)
  have K := hk H1 locs (cells + 1) (slots + n.toNat) ls ⟨by rw [e3]; omega, by rw [e3, e4]; exact hP1, by rw [e3, e4]; omega, hO1⟩ ⟨Nat.le_trans hS.1 (by omega), fun x h1 h2 => (o1 x (by rw [← gz]; exact Nat.lt_of_lt_of_le h1 hS.1)).trans (hS.2.1 x h1 h2), hS.2.2⟩ (by rw [e3]; exact hL.mono (by omega)) (by rw [e3]; exact okS_cons (show okv (h (-3) 0 + 1) (2, h (-3) 0) from Or.inr (Or.inr ⟨g0, by show h (-3) 0 < h (-3) 0 + 1; omega⟩)) (fun u hu => okv_mono (by omega) (hO u (List.mem_cons_of_mem _ hu)))) (by rw [e3, hnew_m31]; omega) (scr_new hsc g0 _ _)
  simp only [List.map_cons] at K
  rw [vl_ref g0] at K
  exact K
end SIMA
