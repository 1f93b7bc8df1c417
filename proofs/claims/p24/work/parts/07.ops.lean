/-! ===== the instructions that read or write cells ===== -/
section XOP
variable {cy : Nat → ClassId} {D : va_G} {Bs : Nat} {E : Nat × Nat × Nat} {p : Program} {l : Launch} {e : Env} {R : Room} {s : State} {m : MethodId} {args : Array Value} {below : List Frame} {meth : Method} {c : Code} {Q : State → Prop} {mm : xM} {T0 Z0 : Nat} {pc : Nat} {ls : List (Option Value)} {st : List Value} {S : xSh} {V : xV}
theorem g_getfield (hC : xCx cy D Bs E p R s m args meth c mm) {x kd j a : Nat} (hf : xassoc xFt (xkey mm x) = some (kd, j)) (hk : xkd S a = kd) (hd : decode mm.2.1 pc = .ok (.getfield x, 3)) (kk : xG cy D Bs p l e R s m args below meth c Q mm.2.2.1 T0 Z0 (pc + 3) ls ((if xisR kd j = true then va_rf (xrf S a j) else .int (V a j)) :: st) S V) : xG cy D Bs p l e R s m args below meth c Q mm.2.2.1 T0 Z0 pc ls (.ref a :: st) S V := by
  obtain ⟨hcase, hj, hw⟩ := xFt_ok _ (xassoc_mem hf)
  dsimp only at hcase hj hw
  intro H locs lsA hP hS hE hl
  have hlink := hC.hts _ hw
  obtain ⟨h1, h6⟩ := hcase
  · obtain ⟨hc, hin, -⟩ := xkf kd h1 (by omega)
    subst hk
    obtain ⟨cell, q1, q2, q3, q4⟩ := (hP.2 a).2.1 h1 (by omega)
    obtain ⟨hS', hfc, kC, hkC, hkind⟩ := hC.hK.1 _ _ hc
    obtain ⟨cf, kf, fi, f, hi, hsl⟩ := hS' j hj
    exact W.getf hC.hx hC.hb hC.hown hlink hi (u_facts hfc hkC (u_lays hC.hts hin hj) hi).1 q1 (by rw [q3]; exact fun h => by cases h) (by rw [hsl]; exact q4 j hj) rfl rfl hd (kk H locs lsA hP hS hE hl)
theorem g_putI (hC : xCx cy D Bs E p R s m args meth c mm) {x kd j a : Nat} {v : Int32} (hf : xassoc xFt (xkey mm x) = some (kd, j)) (hk : xkd S a = kd) (h6 : kd ≤ 6) (hR : xisR kd j = false) (hZ : xisZ kd j = true → v = 0 ∨ v = 1) (hd : decode mm.2.1 pc = .ok (.putfield x, 3)) (kk : xG cy D Bs p l e R s m args below meth c Q mm.2.2.1 T0 Z0 (pc + 3) ls st S (xup V a j v)) : xG cy D Bs p l e R s m args below meth c Q mm.2.2.1 T0 Z0 pc ls (.int v :: .ref a :: st) S V := by
  obtain ⟨hcase, hj, hw⟩ := xFt_ok _ (xassoc_mem hf)
  dsimp only at hcase hj hw
  intro H locs lsA hP hS hE hl
  have hlink := hC.hts _ hw
  have h1 : 1 ≤ kd := by omega
  obtain ⟨hc, hin, hty, hnm, hfn, hdc, hkind0⟩ := xkf kd h1 (by omega)
  subst hk
  have hat := (hP.2 a).2.1 h1 (by omega)
  obtain ⟨cell, q1, q2, q3, q4⟩ := hat
  obtain ⟨hS', hfc, kC, hkC, hkind⟩ := hC.hK.1 _ _ hc
  obtain ⟨cf, kf, fi, f, hi, hsl⟩ := hS' j hj
  have hap := va_apart (own := xcn (xkd S a - 1)) hC.hts hin _ hty hnm hC.hK hc
  have hlay := hC.hts _ (hin _ (u_in_lay hj))
  unfold u_lay at hlay
  rw [if_neg (by rw [hfn j hj, hR]; decide)] at hlay
  have hst := (u_facts hfc hkC (u_lays hC.hts hin hj) hi).1
  have hnf : narrow (xty (xkd S a) j) (.int v) = .int v ∧ fits (xty (xkd S a) j) (.int v) = true := by
    rcases hkind0 j hj hR with ht | ⟨ht, hz⟩
    · rw [ht]; exact ⟨rfl, rfl⟩
    · rw [ht]
      rcases hZ hz with rfl | rfl
      · exact ⟨by decide, by decide⟩
      · exact ⟨by decide, by decide⟩
  have h6' := u_store hfc hkC hkind hlay hi (hty j hj) hnf.1 hnf.2
  refine W.putK hC.hx hC.hb (f := f) ⟨hC.hown, hlink, ⟨_, _, _, hi⟩, hst⟩ (by rw [q2]; exact h6') q1 q3 (by rw [hsl]; exact k2_hasslot (q4 j hj)) rfl rfl hd fun H' e1 e2 e3 => ?_
  rw [hsl] at e1 ⊢
  have hr := (hP.2 a).1 h1 (by omega)
  refine kk H' _ lsA (xP_upd hP e2 e3 rfl rfl xup_o ⟨fun _ _ => ?_, fun h7 => by omega, fun h10 => by omega⟩) (hS.put e2 e3 hr.1) (xEx_upd hE (by omega) xup_o) hl
  refine t_OB.to (V := updV (xfv (xkd S a) (xrf S a) (V a)) j (.int v)) ⟨_, e1, q2, q3, t_set q4 hap hj (.int v)⟩ (fun k hk => ?_)
  rw [xup_s]
  unfold updV xfv upd
  by_cases hkj : k = j
  · subst hkj; simp [hR]
  · simp [hkj]
theorem g_putR (hC : xCx cy D Bs E p R s m args meth c mm) {x kd j a v : Nat} (hf : xassoc xFt (xkey mm x) = some (kd, j)) (hk : xkd S a = kd) (h6 : kd ≤ 6) (hR : xisR kd j = true) (hnm : mm.1.name = "<init>") (hown : xown mm + 1 = kd) (hd : decode mm.2.1 pc = .ok (.putfield x, 3)) (kk : xG cy D Bs p l e R s m args below meth c Q mm.2.2.1 T0 Z0 (pc + 3) ls st (xsetr S a j (some v)) V) : xG cy D Bs p l e R s m args below meth c Q mm.2.2.1 T0 Z0 pc ls (.ref v :: .ref a :: st) S V := by
  obtain ⟨hcase, hj, hw⟩ := xFt_ok _ (xassoc_mem hf)
  dsimp only at hcase hj hw
  intro H locs lsA hP hS hE hl
  have hlink := hC.hts _ hw
  have h1 : 1 ≤ kd := by omega
  obtain ⟨hc, hin, hty, hnm2, hfn, hdc, hkind0⟩ := xkf kd h1 (by omega)
  subst hk
  obtain ⟨cell, q1, q2, q3, q4⟩ := (hP.2 a).2.1 h1 (by omega)
  obtain ⟨hS', hfc, kC, hkC, hkind⟩ := hC.hK.1 _ _ hc
  obtain ⟨cf, kf, fi, f, hi, hsl⟩ := hS' j hj
  have hap := va_apart (own := xcn (xkd S a - 1)) hC.hts hin _ hty hnm2 hC.hK hc
  have hlay := hC.hts _ (hin _ (u_in_lay hj))
  unfold u_lay at hlay
  rw [if_pos (by rw [hfn j hj, hR])] at hlay
  have hst := (u_facts hfc hkC (u_lays hC.hts hin hj) hi).1
  have hown2 : xcn (xkd S a - 1) = xcn (xown mm) := by rw [← hown]; rfl
  have hcf : m.cls = cf := by
    obtain ⟨_, _, c', _, _, _, -, -, hf', -, -, -, hown3, -⟩ := Cond.laysFinal_spec hlay
    have e1 : c' = cf := by have := hi.symm.trans hf'; simp at this; exact this.1.symm
    rw [hdc j hj, hown2] at hown3
    rw [← e1]; exact Option.some.inj (hC.hown.symm.trans hown3)
  have hnf : narrow (xty (xkd S a) j) (.ref v) = .ref v ∧ fits (xty (xkd S a) j) (.ref v) = true := by
    rcases xisR_ty hR with ⟨t, ht⟩ | ⟨t, ht⟩
    · rw [ht]; exact ⟨rfl, rfl⟩
    · rw [ht]; exact ⟨rfl, rfl⟩
  have h6' := u_fits hfc hkC hkind (Or.inr hlay) hi (hty j hj) hnf.1 hnf.2
  refine W.putFinK hC.hx hC.hb hC.hown hlink hi hst hcf ((hC.hnm hnm).trans hnm) (by rw [q2]; exact h6') q1 q3 (by rw [hsl]; exact k2_hasslot (q4 j hj)) rfl rfl hd fun H' e1 e2 e3 => ?_
  rw [hsl] at e1 ⊢
  have hr := (hP.2 a).1 h1 (by omega)
  refine kk H' _ lsA (xP_upd hP e2 e3 rfl (xsetr_kd S a j (some v) a) xsetr_o ⟨fun _ _ => ?_, fun h7 => by rw [xsetr_kd] at h7; omega, fun h10 => by rw [xsetr_kd] at h10; omega⟩) (hS.put e2 e3 hr.1) (xEx_upd hE (by rw [xsetr_kd]; omega) xsetr_o) hl
  rw [xsetr_kd]
  refine t_OB.to (V := updV (xfv (xkd S a) (xrf S a) (V a)) j (.ref v)) ⟨_, e1, q2, q3, t_set q4 hap hj (.ref v)⟩ (fun k hk => ?_)
  rw [xsetr_s]
  unfold updV xfv va_up
  by_cases hkj : k = j
  · subst hkj; simp [hR, va_rf]
  · simp [hkj]
theorem xarrT (hC : xCx cy D Bs E p R s m args meth c mm) {kd : Nat} (h7 : 7 ≤ kd) (h11 : kd ≤ 11) : ∃ ty, (kd = 7 → ty = .int) ∧ (kd = 8 → ty = .char) ∧ (kd = 9 → ty = .boolean) ∧ (kd = 10 → ty = .object RX0) ∧ (kd = 11 → ty = .object RX2) ∧ ArrOfT s (cy kd) ty ∧ va_RA s (cy kd) ty := by
  have r : kd = 7 ∨ kd = 8 ∨ kd = 9 ∨ kd = 10 ∨ kd = 11 := by omega
  rcases r with rfl | rfl | rfl | rfl | rfl
  · exact ⟨.int, by simp, by simp, by simp, by simp, by simp, hC.hK.2 0 _ rfl⟩
  · exact ⟨.char, by simp, by simp, by simp, by simp, by simp, hC.hK.2 1 _ rfl⟩
  · exact ⟨.boolean, by simp, by simp, by simp, by simp, by simp, hC.hK.2 2 _ rfl⟩
  · exact ⟨.object RX0, by simp, by simp, by simp, by simp, by simp, hC.hK.2 3 _ rfl⟩
  · exact ⟨.object RX2, by simp, by simp, by simp, by simp, by simp, hC.hK.2 4 _ rfl⟩
theorem g_iaload (hC : xCx cy D Bs E p R s m args meth c mm) {a : Nat} {j : Int32} (hk : xkd S a = 7 ∨ xkd S a = 14) (hi : ¬ (j < 0 ∨ xln S a ≤ j.toNatClampNeg)) (hd : decode mm.2.1 pc = .ok (.iaload, 1)) (kk : xG cy D Bs p l e R s m args below meth c Q mm.2.2.1 T0 Z0 (pc + 1) ls (.int (V a j.toNatClampNeg) :: st) S V) : xG cy D Bs p l e R s m args below meth c Q mm.2.2.1 T0 Z0 pc ls (.int j :: .ref a :: st) S V := by
  intro H locs lsA hP hS hE hl
  rcases hk with hk | hk
  · have h1 := (hP.2 a).2.2.1 (by omega) (by omega)
    rw [hk] at h1
    have hlt : j.toNatClampNeg < xln S a := Nat.not_le.mp fun q => hi (Or.inr q)
    exact W.iald (v := .int (V a j.toNatClampNeg)) hC.hx hC.hb h1 ((hC.hK.2 0 _ rfl).1 _ _) (fun q => by cases q) (by rw [arrV_size]; exact hi) (by rw [arrV_read _ _ hlt]) rfl rfl hd (kk H locs lsA hP hS hE hl)
  · exact va_ti hC.hx hC.hb ((hE a).1 hk) hS hi rfl hd (kk H locs lsA hP hS hE hl)
theorem g_baload (hC : xCx cy D Bs E p R s m args meth c mm) {a : Nat} {j : Int32} (hk : xkd S a = 9 ∨ xkd S a = 12) (hi : ¬ (j < 0 ∨ xln S a ≤ j.toNatClampNeg)) (hd : decode mm.2.1 pc = .ok (.baload, 1)) (kk : xG cy D Bs p l e R s m args below meth c Q mm.2.2.1 T0 Z0 (pc + 1) ls (.int (V a j.toNatClampNeg) :: st) S V) : xG cy D Bs p l e R s m args below meth c Q mm.2.2.1 T0 Z0 pc ls (.int j :: .ref a :: st) S V := by
  intro H locs lsA hP hS hE hl
  rcases hk with hk | hk
  · have h1 := (hP.2 a).2.2.1 (by omega) (by omega)
    rw [hk] at h1
    have hlt : j.toNatClampNeg < xln S a := Nat.not_le.mp fun q => hi (Or.inr q)
    exact W.zald (v := .int (V a j.toNatClampNeg)) hC.hx hC.hb h1 ((hC.hK.2 2 _ rfl).1 _ _) (fun q => by cases q) (by rw [arrV_size]; exact hi) (by rw [arrV_read _ _ hlt]) rfl rfl hd (kk H locs lsA hP hS hE hl)
  · exact va_tb hC.hx hC.hb ((hE a).2.1 hk) hS hi rfl hd (kk H locs lsA hP hS hE hl)
theorem g_caload (hC : xCx cy D Bs E p R s m args meth c mm) {a : Nat} {j : Int32} (hk : xkd S a = 8) (hi : ¬ (j < 0 ∨ xln S a ≤ j.toNatClampNeg)) (hd : decode mm.2.1 pc = .ok (.caload, 1)) (kk : xG cy D Bs p l e R s m args below meth c Q mm.2.2.1 T0 Z0 (pc + 1) ls (.int (V a j.toNatClampNeg) :: st) S V) : xG cy D Bs p l e R s m args below meth c Q mm.2.2.1 T0 Z0 pc ls (.int j :: .ref a :: st) S V := by
  intro H locs lsA hP hS hE hl
  have h1 := (hP.2 a).2.2.1 (by omega) (by omega)
  rw [hk] at h1
  have hlt : j.toNatClampNeg < xln S a := Nat.not_le.mp fun q => hi (Or.inr q)
  exact W.cald (v := .int (V a j.toNatClampNeg)) hC.hx hC.hb h1 ((hC.hK.2 1 _ rfl).1 _ _) (fun q => by cases q) (by rw [arrV_size]; exact hi) (by rw [arrV_read _ _ hlt]) rfl rfl hd (kk H locs lsA hP hS hE hl)
theorem g_aaload (hC : xCx cy D Bs E p R s m args meth c mm) {a : Nat} {j : Int32} (hk : xkd S a = 10 ∨ xkd S a = 11) (hi : ¬ (j < 0 ∨ xln S a ≤ j.toNatClampNeg)) (hd : decode mm.2.1 pc = .ok (.aaload, 1)) (kk : xG cy D Bs p l e R s m args below meth c Q mm.2.2.1 T0 Z0 (pc + 1) ls (va_rf (xrf S a j.toNatClampNeg) :: st) S V) : xG cy D Bs p l e R s m args below meth c Q mm.2.2.1 T0 Z0 pc ls (.int j :: .ref a :: st) S V := by
  intro H locs lsA hP hS hE hl
  have hlt : j.toNatClampNeg < xln S a := Nat.not_le.mp fun q => hi (Or.inr q)
  have h1 := (hP.2 a).2.2.2 (by omega) (by omega)
  rcases hk with hk | hk
  · rw [hk] at h1
    exact W.aald (v := va_rf (xrf S a j.toNatClampNeg)) (ty := .object RX0) hC.hx hC.hb h1 ((hC.hK.2 3 _ rfl).1 _ _) rfl (fun q => by cases q) (by rw [arrV_size]; exact hi) (by rw [arrV_read _ _ hlt]) rfl rfl hd (kk H locs lsA hP hS hE hl)
  · rw [hk] at h1
    exact W.aald (v := va_rf (xrf S a j.toNatClampNeg)) (ty := .object RX2) hC.hx hC.hb h1 ((hC.hK.2 4 _ rfl).1 _ _) rfl (fun q => by cases q) (by rw [arrV_size]; exact hi) (by rw [arrV_read _ _ hlt]) rfl rfl hd (kk H locs lsA hP hS hE hl)
theorem g_iastore (hC : xCx cy D Bs E p R s m args meth c mm) {a : Nat} {j v : Int32} (hk : xkd S a = 7) (hi : ¬ (j < 0 ∨ xln S a ≤ j.toNatClampNeg)) (hd : decode mm.2.1 pc = .ok (.iastore, 1)) (kk : xG cy D Bs p l e R s m args below meth c Q mm.2.2.1 T0 Z0 (pc + 1) ls st S (xup V a j.toNatClampNeg v)) : xG cy D Bs p l e R s m args below meth c Q mm.2.2.1 T0 Z0 pc ls (.int v :: .int j :: .ref a :: st) S V := by
  intro H locs lsA hP hS hE hl
  have hr := (hP.2 a).1 (by omega) (by omega)
  have h1 := (hP.2 a).2.2.1 (by omega) (by omega)
  rw [hk] at h1
  refine W.iast hC.hx hC.hb h1 ((hC.hK.2 0 _ rfl).1 _ _) (fun q => by cases q) (by rw [arrV_size]; exact hi) rfl rfl hd fun H' e1 e2 e3 => ?_
  refine kk H' _ lsA (xP_upd hP e2 e3 rfl rfl xup_o ⟨fun _ h => by omega, fun _ _ => ?_, fun h => by omega⟩) (hS.put e2 e3 hr.1) (xEx_upd hE (by omega) xup_o) hl
  rw [e1, arrV_store, hk, xup_s]
  congr 2
  funext q
  by_cases hq : q = j.toNatClampNeg
  · subst hq; simp [updV, upd]
  · simp [updV, upd, hq]
theorem g_bastore (hC : xCx cy D Bs E p R s m args meth c mm) {a : Nat} {j v : Int32} (hk : xkd S a = 9) (hi : ¬ (j < 0 ∨ xln S a ≤ j.toNatClampNeg)) (hd : decode mm.2.1 pc = .ok (.bastore, 1)) (kk : xG cy D Bs p l e R s m args below meth c Q mm.2.2.1 T0 Z0 (pc + 1) ls st S (xup V a j.toNatClampNeg (vp_nar .boolean v))) : xG cy D Bs p l e R s m args below meth c Q mm.2.2.1 T0 Z0 pc ls (.int v :: .int j :: .ref a :: st) S V := by
  intro H locs lsA hP hS hE hl
  have hr := (hP.2 a).1 (by omega) (by omega)
  have h1 := (hP.2 a).2.2.1 (by omega) (by omega)
  rw [hk] at h1
  refine W.zast hC.hx hC.hb h1 ((hC.hK.2 2 _ rfl).1 _ _) (fun q => by cases q) (by rw [arrV_size]; exact hi) rfl rfl hd fun H' e1 e2 e3 => ?_
  refine kk H' _ lsA (xP_upd hP e2 e3 rfl rfl xup_o ⟨fun _ h => by omega, fun _ _ => ?_, fun h => by omega⟩) (hS.put e2 e3 hr.1) (xEx_upd hE (by omega) xup_o) hl
  rw [e1, arrV_store, hk, xup_s]
  congr 2
  funext q
  by_cases hq : q = j.toNatClampNeg
  · subst hq; simp [updV, upd, vp_nar, narrow]
  · simp [updV, upd, hq]
theorem g_castore (hC : xCx cy D Bs E p R s m args meth c mm) {a : Nat} {j v : Int32} (hk : xkd S a = 8) (hi : ¬ (j < 0 ∨ xln S a ≤ j.toNatClampNeg)) (hd : decode mm.2.1 pc = .ok (.castore, 1)) (kk : xG cy D Bs p l e R s m args below meth c Q mm.2.2.1 T0 Z0 (pc + 1) ls st S (xup V a j.toNatClampNeg (vp_nar .char v))) : xG cy D Bs p l e R s m args below meth c Q mm.2.2.1 T0 Z0 pc ls (.int v :: .int j :: .ref a :: st) S V := by
  intro H locs lsA hP hS hE hl
  have hr := (hP.2 a).1 (by omega) (by omega)
  have h1 := (hP.2 a).2.2.1 (by omega) (by omega)
  rw [hk] at h1
  refine W.cast hC.hx hC.hb h1 ((hC.hK.2 1 _ rfl).1 _ _) (fun q => by cases q) (by rw [arrV_size]; exact hi) rfl rfl hd fun H' e1 e2 e3 => ?_
  refine kk H' _ lsA (xP_upd hP e2 e3 rfl rfl xup_o ⟨fun _ h => by omega, fun _ _ => ?_, fun h => by omega⟩) (hS.put e2 e3 hr.1) (xEx_upd hE (by omega) xup_o) hl
  rw [e1, arrV_store, hk, xup_s]
  congr 2
  funext q
  by_cases hq : q = j.toNatClampNeg
  · subst hq; simp [updV, upd, vp_nar, narrow]
  · simp [updV, upd, hq]
theorem g_aastore (hC : xCx cy D Bs E p R s m args meth c mm) {a v : Nat} {j : Int32} (hk : (xkd S a = 10 ∧ xkd S v = 1) ∨ (xkd S a = 11 ∧ xkd S v = 3)) (hi : ¬ (j < 0 ∨ xln S a ≤ j.toNatClampNeg)) (hd : decode mm.2.1 pc = .ok (.aastore, 1)) (kk : xG cy D Bs p l e R s m args below meth c Q mm.2.2.1 T0 Z0 (pc + 1) ls st (xsetr S a j.toNatClampNeg (some v)) V) : xG cy D Bs p l e R s m args below meth c Q mm.2.2.1 T0 Z0 pc ls (.ref v :: .int j :: .ref a :: st) S V := by
  intro H locs lsA hP hS hE hl
  have hlt : j.toNatClampNeg < xln S a := Nat.not_le.mp fun q => hi (Or.inr q)
  have h0 : ¬ j < 0 := fun q => hi (Or.inl q)
  have hr := (hP.2 a).1 (by omega) (by omega)
  have h1 := (hP.2 a).2.2.2 (by omega) (by omega)
  obtain ⟨cellV, g1, g2, g3, -⟩ := (hP.2 v).2.1 (by omega) (by omega)
  have main : ∀ (kd : Nat) (C : String) (ci : Nat) (hcl : ClassAt s C (D.1 ci)) (hRA : va_RA s (cy kd) (.object C)), xkd S a = kd → (kd = 10 ∨ kd = 11) → cellV.cls = D.1 ci → W p l e R s m args below meth c H locs (S.2.1 - T0) (S.2.2 - Z0) Q (F0 m pc lsA (.ref v :: .int j :: .ref a :: st)) := by
    intro kd C ci hcl hRA hka hkd hcv
    rw [hka] at h1
    obtain ⟨kA, comp, k1, k2, k3, -⟩ := hRA
    have hcomp : comp = D.1 ci := Option.some.inj (k3.symm.trans hcl.1)
    subst hcomp
    obtain ⟨kC, hkC, -⟩ := hcl.2
    refine W.aast hC.hx hC.hb h1 (fun q h => by cases h) (fun h => by cases h) k1 k2 rfl hkC ⟨h0, by rw [arrV_size]; exact hlt⟩ g1 (fun q h => by rw [g3] at h; cases h) (by rw [hcv]; exact hkC) (by rw [hcv]; exact va_assign hcl) rfl rfl hd fun H' e1 e2 e3 => ?_
    refine kk H' _ lsA (xP_upd hP e2 e3 rfl (xsetr_kd _ _ _ _ _) xsetr_o ⟨fun _ h => by rw [xsetr_kd] at h; omega, fun _ h => by rw [xsetr_kd] at h; omega, fun _ _ => ?_⟩) (hS.put e2 e3 hr.1) (xEx_upd hE (by rw [xsetr_kd]; omega) xsetr_o) hl
    rw [e1, arrV_store, xsetr_kd, hka, xsetr_ln, xsetr_s]
    congr 2
    funext q
    by_cases hq : q = j.toNatClampNeg
    · subst hq; simp [updV, va_up, va_rf]
    · simp [updV, va_up, hq]
  rcases hk with ⟨hk, hv⟩ | ⟨hk, hv⟩
  · rw [hv] at g2
    exact main 10 RX0 0 (hC.hK.1 0 _ rfl).2 (hC.hK.2 3 _ rfl).2 hk (Or.inl rfl) g2
  · rw [hv] at g2
    exact main 11 RX2 2 (hC.hK.1 2 _ rfl).2 (hC.hK.2 4 _ rfl).2 hk (Or.inr rfl) g2
theorem g_alen (hC : xCx cy D Bs E p R s m args meth c mm) {a : Nat} (hk : (7 ≤ xkd S a ∧ xkd S a ≤ 12) ∨ xkd S a = 14) (hd : decode mm.2.1 pc = .ok (.arraylength, 1)) (kk : xG cy D Bs p l e R s m args below meth c Q mm.2.2.1 T0 Z0 (pc + 1) ls (.int (Int32.ofNat (xln S a)) :: st) S V) : xG cy D Bs p l e R s m args below meth c Q mm.2.2.1 T0 Z0 pc ls (.ref a :: st) S V := by
  intro H locs lsA hP hS hE hl
  by_cases h14 : xkd S a = 14
  · exact va_tlen hC.hx hC.hb ((hE a).1 h14) hS rfl hd (kk H locs lsA hP hS hE hl)
  · by_cases h12 : xkd S a = 12
    · exact va_tlen hC.hx hC.hb ((hE a).2.1 h12) hS rfl hd (kk H locs lsA hP hS hE hl)
    · obtain ⟨ty, -, -, -, -, -, hA, -⟩ := xarrT hC (kd := xkd S a) (by omega) (by omega)
      by_cases h9 : xkd S a ≤ 9
      · exact W.alen (n := Int32.ofNat (xln S a)) hC.hx hC.hb ((hP.2 a).2.2.1 (by omega) h9) (hA _ _) (by rw [arrV_size]) rfl rfl hd (kk H locs lsA hP hS hE hl)
      · exact W.alen (n := Int32.ofNat (xln S a)) hC.hx hC.hb ((hP.2 a).2.2.2 (by omega) (by omega)) (hA _ _) (by rw [arrV_size]) rfl rfl hd (kk H locs lsA hP hS hE hl)
end XOP
