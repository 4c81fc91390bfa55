/-! cells: fields, rows, lengths, new ones -/
theorem ac_int : Cond.arrayClass .int ∈ gtbl := gtm (in_t1 (List.mem_of_getElem? (i := 35) rfl)) rfl
theorem ac_long : Cond.arrayClass .long ∈ gtbl := gtm (in_t2 (List.mem_of_getElem? (i := 72) rfl)) rfl
theorem ac_bool : Cond.arrayClass .boolean ∈ gtbl := gtm (in_t6 (List.mem_of_getElem? (i := 15) rfl)) rfl
theorem w_native : Cond.native arraycopyName ∈ gtbl := gtm (in_t2 (List.mem_of_getElem? (i := 187) rfl)) rfl
theorem w_acstat : Cond.static arraycopyName ∈ gtbl := gtm (in_t2 (List.mem_of_getElem? (i := 186) rfl)) rfl
theorem w_acini : Cond.initialized "java/lang/System" ∈ gtbl := gtm (in_t1 (List.mem_of_getElem? (i := 12) rfl)) rfl
theorem w_mini : Cond.initialized "java/lang/Math" ∈ gtbl := gtm (in_t1 (List.mem_of_getElem? (i := 13) rfl)) rfl
theorem w_oinst : Cond.instanceMethod objectInit ∈ gtbl := gtm (in_t1 (List.mem_of_getElem? (i := 20) rfl)) rfl
theorem w_ocode : Cond.code objectInit ⟨#[0xb1]⟩ 1 none ∈ gtbl := gtm (in_t1 (List.mem_of_getElem? (i := 21) rfl)) rfl
theorem w_maxst : Cond.static Lib.Math.max.name ∈ gtbl := gtm (in_t3 (List.mem_of_getElem? (i := 192) rfl)) rfl
theorem w_minst : Cond.static Lib.Math.min.name ∈ gtbl := gtm (in_t3 (List.mem_of_getElem? (i := 195) rfl)) rfl
theorem w_maxc : Cond.code Lib.Math.max.name Lib.Math.max.code 2 (some .int) ∈ gtbl := gtm (in_t3 (List.mem_of_getElem? (i := 193) rfl)) rfl
theorem w_minc : Cond.code Lib.Math.min.name Lib.Math.min.code 2 (some .int) ∈ gtbl := gtm (in_t3 (List.mem_of_getElem? (i := 196) rfl)) rfl
theorem ft_all : ftL.all (fun r => r.all (fun x => decide (x ≤ 3))) = true := by decide +kernel
theorem ft_le (ci k : Nat) : ftT ci k ≤ 3 := by
  unfold ftT
  rw [List.getD_eq_getElem?_getD]
  cases h : (ftL.getD ci [])[k]? with
  | none => exact Nat.zero_le _
  | some x =>
    have h2 : x ∈ ftL.getD ci [] := List.mem_of_getElem? h
    rw [List.getD_eq_getElem?_getD] at h2
    cases h3 : ftL[ci]? with
    | none => rw [h3] at h2; exact absurd h2 List.not_mem_nil
    | some r =>
      rw [h3] at h2
      have h4 := List.all_eq_true.mp ft_all r (List.mem_of_getElem? h3)
      exact of_decide_eq_true (List.all_eq_true.mp h4 x h2)
theorem okc_okv {n : Int} {kd : Nat} {k v : Int} (hk : kd ≤ 10) (h : okc n kd k v) : okv n (ftg (ftT kd k.toNat), v) := by
  unfold okc at h
  rw [if_neg (by omega), if_neg (by omega), if_neg (by omega)] at h
  have h3 := ft_le kd k.toNat
  unfold ftg
  by_cases e3 : ftT kd k.toNat = 3
  · rw [if_pos e3] at h
    rw [if_pos e3]
    exact bit_in h
  · rw [if_neg e3] at h
    rw [if_neg e3]
    by_cases e2 : ftT kd k.toNat = 2
    · rw [if_pos e2] at h
      rw [e2]
      exact Or.inr h
    · rw [if_neg e2] at h
      by_cases e1 : ftT kd k.toNat = 1
      · rw [if_pos e1] at h
        rw [e1]
        exact h
      · rw [if_neg e1] at h
        rw [show ftT kd k.toNat = 0 by omega]
        exact h
theorem okv_okc {n : Int} {kd : Nat} {k v : Int} (hk : kd ≤ 10) (h : okv n (ftg (ftT kd k.toNat), v)) (hb : ftT kd k.toNat = 3 → isBit v) (h2 : ftT kd k.toNat = 2 → v ≠ -2) : okc n kd k v := by
  unfold okc
  rw [if_neg (by omega), if_neg (by omega), if_neg (by omega)]
  have h3 := ft_le kd k.toNat
  unfold ftg at h
  by_cases e3 : ftT kd k.toNat = 3
  · rw [if_pos e3]
    exact hb e3
  · rw [if_neg e3]
    rw [if_neg e3] at h
    by_cases e2 : ftT kd k.toNat = 2
    · rw [if_pos e2]
      rw [e2] at h
      have h : v = -2 ∨ v = -1 ∨ (0 ≤ v ∧ v < n) := h
      have h2 := h2 e2
      omega
    · rw [if_neg e2]
      by_cases e1 : ftT kd k.toNat = 1
      · rw [if_pos e1]
        rw [e1] at h
        exact h
      · rw [if_neg e1]
        rw [show ftT kd k.toNat = 0 by omega] at h
        exact h
theorem okv_ref {n a : Int} (h : okv n (2, a)) (h0 : 0 ≤ a) : a < n := by
  have h : a = -2 ∨ a = -1 ∨ (0 ≤ a ∧ a < n) := h
  omega
theorem vl_ref {B sb : Nat} {a : Int} (h0 : 0 ≤ a) : vl B sb (2, a) = .ref (B + a.toNat) := by
  rw [vl2 B sb (by omega), adr_nn B sb h0]
section SIMH
variable {p : Program} {l : Launch} {e : Env} {R : Room} {s : State} {m : MethodId} {args : Array Value} {below : List Frame} {meth : Method} {c : Code} {Zf : State → Prop} {M : MRec} {B sb Lx : Nat} {xs : Nat → Int32} {D : va_G} {cI cJ cZ : ClassId} {d : Nat} {n0 b0 : Int}
theorem fs_at (B sb : Nat) {N ci k : Nat} (f : Int → Int) (hk : k < N) : ((List.range N).map (fun k => vl B sb (ftg (ftT ci k), f k)))[k]? = some (vl B sb (ftg (ftT ci k), f k)) := by
  rw [List.getElem?_map, List.getElem?_range hk]
  rfl
theorem sh_get (C : Cx p R s m args meth c M B sb Lx xs D cI cJ cZ d n0) {pc idx : Nat} {L S : List PV} {h : Hp} {a : Int} {ns ci f ty fin : Nat} (hd : decode (mC M) pc = .ok (.getfield idx, 3)) (hf : fldT (mO M) idx = some (ns, ci, f, ty, fin)) (ha : shK a = ci) (hk : SimP p l e R s m args below meth c Zf M B sb Lx xs D cI cJ cZ n0 b0 (pc + 3) L ((if ty = 3 then 0 else ty, h a f) :: S) h) : SimP p l e R s m args below meth c Zf M B sb Lx xs D cI cJ cZ n0 b0 pc L ((2, a) :: S) h := by
  obtain ⟨hx, hb, hml, hown, hts, hnw, hK, hX, hR, hnm⟩ := C
  intro H locs cells slots ls hH hS hL hO hc hsc
  obtain ⟨fl, f1, f2, f3, f4, f5, f6, f7⟩ := fld_ok hf
  have ha0 : 0 ≤ a := by have := shK_nn ha (by omega); omega
  have han : a < h (-3) 0 := okv_ref (hO _ List.mem_cons_self) ha0
  obtain ⟨g0, gP, gz, gO⟩ := hH
  have hq : a.toNat < (h (-3) 0).toNat := by omega
  have hcast : ((a.toNat : Nat) : Int) = a := Int.toNat_of_nonneg ha0
  have hN : shN a = (NC ci : Int) := shN_obj ha f1
  have hok := gO a f ha0 han (by omega) (by rw [hN]; omega)
  rw [ha] at hok
  have hv2 := okc_okv f1 hok
  rw [Int.toNat_natCast, f4] at hv2
  have he := wsH_at B sb cI cJ cZ h hq
  rw [hcast, celE_o (by rw [hcast]; exact ha) f1, hcast] at he
  have hv : ((List.range (shN a).toNat).map (fun k => vl B sb (ftg (ftT ci k), h a k)))[f]? = some (vl B sb (ftg ty, h a f)) := by
    rw [← f4]
    exact fs_at B sb (h a) (by rw [hN]; omega)
  have K := hk H locs cells slots ls ⟨g0, gP, gz, gO⟩ hS hL (okS_cons hv2 (fun u hu => hO u (List.mem_cons_of_mem _ hu))) hc hsc
  simp only [List.map_cons] at K ⊢
  rw [vl_ref ha0]
  rcases fl with ⟨-, w⟩ | ⟨-, w⟩
  · exact va_getN hx hb hts (in_TCg f1) hown hK gP a.toNat he (vw_at ci f1) f f2 (va_Nw.use rfl (hnw _ w)) (fun x h9 => by rw [f3] at h9; exact h9) hv hd K
  · exact va_get hx hb hts (in_TCg f1) hown hK gP a.toNat he (vw_at ci f1) f f2 (hts _ w) (fun x h9 => by rw [f3] at h9; exact h9) hv hd K
theorem ty_fits {B sb : Nat} {n v : Int} {ft : FieldType} {ty : Nat} (ht : tycode ft = ty) (h3 : ty ≤ 3) (hv : okv n (ftg ty, v)) (hb : ty = 3 → isBit v) : narrow ft (vl B sb (ftg ty, v)) = vl B sb (ftg ty, v) ∧ fits ft (vl B sb (ftg ty, v)) = true := by
  subst ht
  cases ft with
  | int => exact ⟨rfl, rfl⟩
  | long => exact ⟨rfl, rfl⟩
  | boolean => exact ⟨bit_narrow (hb rfl), bit_fits (hb rfl)⟩
  | object s =>
    show narrow _ (if v = -1 then Value.null else .ref (adr B sb v)) = (if v = -1 then Value.null else .ref (adr B sb v)) ∧ fits _ (if v = -1 then Value.null else .ref (adr B sb v)) = true
    split <;> exact ⟨rfl, rfl⟩
  | array s =>
    show narrow _ (if v = -1 then Value.null else .ref (adr B sb v)) = (if v = -1 then Value.null else .ref (adr B sb v)) ∧ fits _ (if v = -1 then Value.null else .ref (adr B sb v)) = true
    split <;> exact ⟨rfl, rfl⟩
  | _ => exact absurd h3 (by decide)
theorem scr_st {Lx : Nat} {xs : Nat → Int32} {h : Hp} (hs : ScrOK Lx xs h) {a i v : Int} (ha : 0 ≤ a) : ScrOK Lx xs (hst h a i v) := fun k hk => by rw [hst_m2 h ha]; exact hs k hk
theorem fs_set (B sb : Nat) {N ci f : Nat} {h : Hp} {a v : Int} (hf : f < N) : ((List.range N).map (fun k => vl B sb (ftg (ftT ci k), h a k))).set f (vl B sb (ftg (ftT ci f), v)) = (List.range N).map (fun k => vl B sb (ftg (ftT ci k), hst h a f v a k)) := by
  apply List.ext_getElem?
  intro k
  by_cases hk : k = f
  · subst hk
    rw [List.getElem?_set_self (by simpa using hf), fs_at B sb (hst h a k v a) hf]
    simp [hst]
  · rw [List.getElem?_set_ne (Ne.symm hk)]
    by_cases hl : k < N
    · rw [fs_at B sb (h a) hl, fs_at B sb (hst h a f v a) hl]
      have : hst h a f v a k = h a k := by unfold hst; rw [if_neg (by omega)]
      rw [this]
    · rw [List.getElem?_eq_none (by simpa using hl), List.getElem?_eq_none (by simpa using hl)]
theorem sh_put (C : Cx p R s m args meth c M B sb Lx xs D cI cJ cZ d n0) {pc idx : Nat} {L S : List PV} {h : Hp} {a v : Int} {t ns ci f ty fin : Nat} (hd : decode (mC M) pc = .ok (.putfield idx, 3)) (hf : fldT (mO M) idx = some (ns, ci, f, ty, fin)) (ha : shK a = ci) (ht : t = (if ty = 3 then 0 else ty)) (hbit : ty = 3 → isBit v) (hfi : fin = 0 ∨ (fin = 1 ∧ (mY M).name = "<init>" ∧ ci = mO M ∧ ns = 0)) (hv2 : ty = 2 → v ≠ -2) (hk : SimP p l e R s m args below meth c Zf M B sb Lx xs D cI cJ cZ n0 b0 (pc + 3) L S (hst h a f v)) : SimP p l e R s m args below meth c Zf M B sb Lx xs D cI cJ cZ n0 b0 pc L ((t, v) :: (2, a) :: S) h := by
  obtain ⟨hx, hb, hml, hown, hts, hnw, hK, hX, hR, hnm⟩ := C
  intro H locs cells slots ls hH hS hL hO hc hsc
  obtain ⟨fl, f1, f2, f3, f4, f5, f6, f7⟩ := fld_ok hf
  have ht : t = ftg ty := ht
  subst ht
  have hvv := hO _ List.mem_cons_self
  have ha0 : 0 ≤ a := by have := shK_nn ha (by omega); omega
  have han : a < h (-3) 0 := okv_ref (hO _ (List.mem_cons_of_mem _ List.mem_cons_self)) ha0
  obtain ⟨g0, gP, gz, gO⟩ := hH
  have hq : a.toNat < (h (-3) 0).toNat := by omega
  have hcast : ((a.toNat : Nat) : Int) = a := Int.toNat_of_nonneg ha0
  have hN : shN a = (NC ci : Int) := shN_obj ha f1
  have h3 : ty ≤ 3 := by rw [← f4]; exact ft_le _ _
  have he := wsH_at B sb cI cJ cZ h hq
  rw [hcast, celE_o (by rw [hcast]; exact ha) f1, hcast] at he
  have hset : (wsH B sb cI cJ cZ (h (-3) 0).toNat h).set a.toNat (B + a.toNat, .inr (ci, ((List.range (shN a).toNat).map (fun k => vl B sb (ftg (ftT ci k), h a k))).set f (vl B sb (ftg ty, v)))) = wsH B sb cI cJ cZ (h (-3) 0).toNat (hst h a f v) := by
    rw [← wsH_set B sb cI cJ cZ (h := h) (h' := hst h a f v) hq (fun i hi => hst_off h (by omega)), hcast, celE_o (by rw [hcast]; exact ha) f1, hcast, ← f4, fs_set B sb (by rw [hN]; omega)]
  obtain ⟨hn1, hn2⟩ := ty_fits (B := B) (sb := sb) (n := h (-3) 0) (v := v) f5 h3 hvv hbit
  have e3 : hst h a f v (-3) 0 = h (-3) 0 := hst_m3 h ha0
  have hH' : okH (hst h a f v) := okH_st gO ha0 (by
    rw [ha]
    refine okv_okc f1 ?_ ?_ ?_
    · rw [Int.toNat_natCast, f4]; exact hvv
    · rw [Int.toNat_natCast, f4]; exact hbit
    · rw [Int.toNat_natCast, f4]; exact hv2)
  have K : ∀ (H1 : Heap) (locs1 : List Loc), va_P D vwCl ((wsH B sb cI cJ cZ (h (-3) 0).toNat h).set a.toNat (B + a.toNat, .inr (ci, ((List.range (shN a).toNat).map (fun k => vl B sb (ftg (ftT ci k), h a k))).set f (vl B sb (ftg ty, v))))) H1 → va_D (fun q => B ≤ q) ((wsH B sb cI cJ cZ (h (-3) 0).toNat h).set a.toNat (B + a.toNat, .inr (ci, ((List.range (shN a).toNat).map (fun k => vl B sb (ftg (ftT ci k), h a k))).set f (vl B sb (ftg ty, v))))) → va_S (fun q => B ≤ q) s.heap H1 locs1 → W p l e R s m args below meth c H1 locs1 cells slots Zf (F0 m (pc + 3) ls (S.map (vl B sb))) := by
    intro H1 locs1 h1 _ h4
    rw [hset] at h1
    refine W_size g0 hX.2.2.1 h1 h4 hc.1 (fun hz => ?_)
    refine hk H1 locs1 cells slots ls ⟨by rw [e3]; exact g0, by rw [e3]; exact h1, by rw [e3]; exact hz, hH'⟩ h4 ?_ ?_ ?_ (scr_st hsc ha0)
    · rw [e3]; exact hL
    · rw [e3]; exact fun u hu => hO u (List.mem_cons_of_mem _ (List.mem_cons_of_mem _ hu))
    · rw [e3, hst_m3 h ha0]; exact hc
  simp only [List.map_cons]
  rw [vl_ref ha0]
  have hD := wsH_D B sb cI cJ cZ (h (-3) 0).toNat h
  have hl : f < ((List.range (shN a).toNat).map (fun k => vl B sb (ftg (ftT ci k), h a k))).length := by simp; rw [hN]; omega
  rcases hfi with hz | ⟨hz, hz2, hz3, hz4⟩
  · have f7' : (TC ci f).2.2.2 = false := by rw [f7, hz]; rfl
    rcases fl with ⟨-, w⟩ | ⟨-, w⟩
    · exact va_putN hx hb hts (in_TCg f1) (tyC ci) (ty_TC ci f1) (nm_TC ci f1) hown hK gP hD hS a.toNat he (vw_at ci f1) f f2 (va_Nw.use rfl (hnw _ w)) (fun x h9 => by rw [f3] at h9; exact h9) f7' (ty_TC ci f1 f f2) hn1 hn2 hl hd K
    · exact va_put hx hb hts (in_TCg f1) (tyC ci) (ty_TC ci f1) (nm_TC ci f1) hown hK gP hD hS a.toNat he (vw_at ci f1) f f2 (hts _ w) (fun x h9 => by rw [f3] at h9; exact h9) f7' (ty_TC ci f1 f f2) hn1 hn2 hl hd K
  · have f7' : (TC ci f).2.2.2 = true := by rw [f7, hz]; rfl
    rcases fl with ⟨w0, w⟩ | ⟨-, w⟩
    · omega
    · exact va_putF hx hb hts (in_TCg f1) (tyC ci) (ty_TC ci f1) (nm_TC ci f1) hown hK gP hD hS a.toNat he (vw_at ci f1) f f2 (hts _ w) (fun x h9 => by rw [f3] at h9; exact h9) f7' (hnm hz2) (by rw [f3, hz3]) (ty_TC ci f1 f f2) hn1 hn2 hl hd K
end SIMH
