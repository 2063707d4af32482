theorem zt1 : z_ins i_M_has 0 = some (.iload_n 1, 1) := by decide +kernel
theorem zt2 (E : z_E) (lv n k : Nat) (G : z_H) (l0 : Option Value) (x : Int32) : z_step E i_M_has lv (.iload_n 1) 1 0 [l0, some (.int x)] [] n k G = z_nx 1 [l0, some (.int x)] [.int x] n k G := rfl
theorem zt3 (E : z_E) (lv n k : Nat) (G : z_H) (l0 : Option Value) (x : Int32) (a : Nat) : z_step E i_M_has lv (.getfield 55) 3 8 [l0, some (.int x)] [.ref a, .int x] n k G = z_vl (z_gf G a (z_fe i_M_has 55)) 11 [l0, some (.int x)] [.int x] n k G := rfl
theorem zt4 : z_me i_X_marsh 59 = z_me i_X_marsh 59 := by decide +kernel
theorem zt5 (E : z_E) (lv n k : Nat) (G : z_H) (l0 : Option Value) (x : Int32) (a : Nat) : z_step E i_M_has lv (.istore_n 1) 1 8 [l0, some (.int x)] [.int 5, .int x] n k G = z_nx 9 [l0, some (.int 5)] [.int x] n k G := rfl
theorem zt6 (E : z_E) (lv n k : Nat) (G : z_H) (l0 : Option Value) (x : Int32) (a : Nat) : z_step E i_M_has lv (.iconst 5) 1 8 [l0, some (.int x)] [.int 5, .int x] n k G = z_nx 9 [l0, some (.int x)] [.int 5, .int 5, .int x] n k G := rfl
