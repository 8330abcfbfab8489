/-! constants and the static array -/
section AX7
variable {p : Program} {l : Launch} {e : Env} {R : Room} {s : State} {m : MethodId} {args : Array Value} {below : List Frame} {meth : Method} {c : Code} {H : Heap} {locs : List Loc} {cells slots : Nat} {Q : State → Prop}
variable {cc : ByteArray} {pc : Nat} {A : Array Slot} {B : Nat} {X : Nat → Value} {D : va_G} {H0 : Heap} {w w' : ax_W} {st st' : List Value} {own : String} {xs : List Int32}
theorem ax_gets_ok (hexec : p.tables.exec = Jvm.exec) (hb : c.code = cc) (hown : s.vm.findClass own = some m.cls) (hS : ax_Sim B X D H0 w H) (hB : H0.size = B) {idx : Nat} {host : String} (hZ : va_Z "MatrixDesk" "UNITS" "[I" (X 1) (fun q => B ≤ q) s H0)
    (hlink : (Cond.fieldLinkNest own idx "MatrixDesk" "UNITS" "[I" host).before args s = true) (hd : decode cc pc = .ok (.getstatic idx, 3))
    (kk : W p l e R s m args below meth c H locs cells slots Q (F0 m (pc + 3) A ((Value.retAddr 1 :: st).map (ax_v B X)))) : W p l e R s m args below meth c H locs cells slots Q (F0 m pc A (st.map (ax_v B X))) := by
  obtain ⟨cf, kf, fi, f, a, cell, h1, h2, h3, h4, h5, h6, h7, h8⟩ := hZ
  have ha : a < B := by rw [← hB]; exact (Array.getElem?_eq_some_iff.mp h5).1
  exact va_WgetsN hexec hb hown hlink h1 h2 h3 h4 (by rw [hS.2.2 a ha]; exact h5) (fun e => by rw [e] at h6; cases h6) h7 rfl hd kk
theorem ax_objinit_ok (hX : ax_Xr X) (hexec : p.tables.exec = Jvm.exec) (hb : c.code = cc) (hml : c.maxLocals = A.size) (hown : s.vm.findClass own = some m.cls) {idx i : Nat} {r : List Value} (hlink : (Cond.methodLink own idx Lib.objectInit).before args s = true) (hinst : (Cond.instanceMethod Lib.objectInit).before args s = true) (hcode : (Cond.code Lib.objectInit ⟨#[0xb1]⟩ 1 none).before args s = true)
    (hd : decode cc pc = .ok (.invokespecial idx, 3)) (hfr : 1 ≤ R.frames) (hlo : 30 ≤ R.locals) (hwt : (r.map ax_wt).sum ≤ 8)
    (kk : W p l e R s m args below meth c H locs cells slots Q (F0 m (pc + 3) A (r.map (ax_v B X)))) : W p l e R s m args below meth c H locs cells slots Q (F0 m pc A ((Value.ref i :: r).map (ax_v B X))) := by
  refine W.objInit hexec hb hown hlink hinst hcode (g := F0 m pc A ((Value.ref i :: r).map (ax_v B X))) rfl hml.symm rfl hd hfr ?_ kk
  show 2 * 0 + _ + 12 ≤ _
  rw [ax_wt_sum hX]
  omega
end AX7
