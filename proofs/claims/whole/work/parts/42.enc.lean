abbrev KT : Type := (Nat → Int32) × (Nat → Int32) × (Nat → Nat → Int32) × (Nat → Nat → Int64) × (Nat → Option Nat) × (Nat) × (Nat) × (Nat) × (Int32) × (Nat → Int32) × (Nat → Int32) × (Nat → Int64) × (Nat → Int32) × (Nat → Nat → Int32) × (Int32) × (Nat → Int32) × (Nat → Int32) × (Nat → Int32) × (Nat → Nat → Int64) × (Nat) × (Nat)
abbrev MT : Type := (Nat → Int32) × (Nat → Int32) × (Nat → Int32) × (Nat → Int32) × (Nat → Int64) × (Int32) × (Nat → Int32) × (Nat → Int64) × (Int32) × (Nat → Int32) × (Nat → Int64) × (Int32) × (Nat → Int64) × (Nat → Int64)
def k_rc (K : KT) : Nat → Int32 := K.1
def k_src (K : KT) (y : Nat → Int32) : KT := (y, K.2.1, K.2.2.1, K.2.2.2.1, K.2.2.2.2.1, K.2.2.2.2.2.1, K.2.2.2.2.2.2.1, K.2.2.2.2.2.2.2.1, K.2.2.2.2.2.2.2.2.1, K.2.2.2.2.2.2.2.2.2.1, K.2.2.2.2.2.2.2.2.2.2.1, K.2.2.2.2.2.2.2.2.2.2.2.1, K.2.2.2.2.2.2.2.2.2.2.2.2.1, K.2.2.2.2.2.2.2.2.2.2.2.2.2.1, K.2.2.2.2.2.2.2.2.2.2.2.2.2.2.1, K.2.2.2.2.2.2.2.2.2.2.2.2.2.2.2.1, K.2.2.2.2.2.2.2.2.2.2.2.2.2.2.2.2.1, K.2.2.2.2.2.2.2.2.2.2.2.2.2.2.2.2.2.1, K.2.2.2.2.2.2.2.2.2.2.2.2.2.2.2.2.2.2.1, K.2.2.2.2.2.2.2.2.2.2.2.2.2.2.2.2.2.2.2.1, K.2.2.2.2.2.2.2.2.2.2.2.2.2.2.2.2.2.2.2.2)
def k_cc (K : KT) : Nat → Int32 := K.2.1
def k_scc (K : KT) (y : Nat → Int32) : KT := (K.1, y, K.2.2.1, K.2.2.2.1, K.2.2.2.2.1, K.2.2.2.2.2.1, K.2.2.2.2.2.2.1, K.2.2.2.2.2.2.2.1, K.2.2.2.2.2.2.2.2.1, K.2.2.2.2.2.2.2.2.2.1, K.2.2.2.2.2.2.2.2.2.2.1, K.2.2.2.2.2.2.2.2.2.2.2.1, K.2.2.2.2.2.2.2.2.2.2.2.2.1, K.2.2.2.2.2.2.2.2.2.2.2.2.2.1, K.2.2.2.2.2.2.2.2.2.2.2.2.2.2.1, K.2.2.2.2.2.2.2.2.2.2.2.2.2.2.2.1, K.2.2.2.2.2.2.2.2.2.2.2.2.2.2.2.2.1, K.2.2.2.2.2.2.2.2.2.2.2.2.2.2.2.2.2.1, K.2.2.2.2.2.2.2.2.2.2.2.2.2.2.2.2.2.2.1, K.2.2.2.2.2.2.2.2.2.2.2.2.2.2.2.2.2.2.2.1, K.2.2.2.2.2.2.2.2.2.2.2.2.2.2.2.2.2.2.2.2)
def k_kc (K : KT) : Nat → Nat → Int32 := K.2.2.1
def k_skc (K : KT) (y : Nat → Nat → Int32) : KT := (K.1, K.2.1, y, K.2.2.2.1, K.2.2.2.2.1, K.2.2.2.2.2.1, K.2.2.2.2.2.2.1, K.2.2.2.2.2.2.2.1, K.2.2.2.2.2.2.2.2.1, K.2.2.2.2.2.2.2.2.2.1, K.2.2.2.2.2.2.2.2.2.2.1, K.2.2.2.2.2.2.2.2.2.2.2.1, K.2.2.2.2.2.2.2.2.2.2.2.2.1, K.2.2.2.2.2.2.2.2.2.2.2.2.2.1, K.2.2.2.2.2.2.2.2.2.2.2.2.2.2.1, K.2.2.2.2.2.2.2.2.2.2.2.2.2.2.2.1, K.2.2.2.2.2.2.2.2.2.2.2.2.2.2.2.2.1, K.2.2.2.2.2.2.2.2.2.2.2.2.2.2.2.2.2.1, K.2.2.2.2.2.2.2.2.2.2.2.2.2.2.2.2.2.2.1, K.2.2.2.2.2.2.2.2.2.2.2.2.2.2.2.2.2.2.2.1, K.2.2.2.2.2.2.2.2.2.2.2.2.2.2.2.2.2.2.2.2)
def k_vs (K : KT) : Nat → Nat → Int64 := K.2.2.2.1
def k_svs (K : KT) (y : Nat → Nat → Int64) : KT := (K.1, K.2.1, K.2.2.1, y, K.2.2.2.2.1, K.2.2.2.2.2.1, K.2.2.2.2.2.2.1, K.2.2.2.2.2.2.2.1, K.2.2.2.2.2.2.2.2.1, K.2.2.2.2.2.2.2.2.2.1, K.2.2.2.2.2.2.2.2.2.2.1, K.2.2.2.2.2.2.2.2.2.2.2.1, K.2.2.2.2.2.2.2.2.2.2.2.2.1, K.2.2.2.2.2.2.2.2.2.2.2.2.2.1, K.2.2.2.2.2.2.2.2.2.2.2.2.2.2.1, K.2.2.2.2.2.2.2.2.2.2.2.2.2.2.2.1, K.2.2.2.2.2.2.2.2.2.2.2.2.2.2.2.2.1, K.2.2.2.2.2.2.2.2.2.2.2.2.2.2.2.2.2.1, K.2.2.2.2.2.2.2.2.2.2.2.2.2.2.2.2.2.2.1, K.2.2.2.2.2.2.2.2.2.2.2.2.2.2.2.2.2.2.2.1, K.2.2.2.2.2.2.2.2.2.2.2.2.2.2.2.2.2.2.2.2)
def k_sl (K : KT) : Nat → Option Nat := K.2.2.2.2.1
def k_ssl (K : KT) (y : Nat → Option Nat) : KT := (K.1, K.2.1, K.2.2.1, K.2.2.2.1, y, K.2.2.2.2.2.1, K.2.2.2.2.2.2.1, K.2.2.2.2.2.2.2.1, K.2.2.2.2.2.2.2.2.1, K.2.2.2.2.2.2.2.2.2.1, K.2.2.2.2.2.2.2.2.2.2.1, K.2.2.2.2.2.2.2.2.2.2.2.1, K.2.2.2.2.2.2.2.2.2.2.2.2.1, K.2.2.2.2.2.2.2.2.2.2.2.2.2.1, K.2.2.2.2.2.2.2.2.2.2.2.2.2.2.1, K.2.2.2.2.2.2.2.2.2.2.2.2.2.2.2.1, K.2.2.2.2.2.2.2.2.2.2.2.2.2.2.2.2.1, K.2.2.2.2.2.2.2.2.2.2.2.2.2.2.2.2.2.1, K.2.2.2.2.2.2.2.2.2.2.2.2.2.2.2.2.2.2.1, K.2.2.2.2.2.2.2.2.2.2.2.2.2.2.2.2.2.2.2.1, K.2.2.2.2.2.2.2.2.2.2.2.2.2.2.2.2.2.2.2.2)
def k_d (K : KT) : Nat := K.2.2.2.2.2.1
def k_sd (K : KT) (y : Nat) : KT := (K.1, K.2.1, K.2.2.1, K.2.2.2.1, K.2.2.2.2.1, y, K.2.2.2.2.2.2.1, K.2.2.2.2.2.2.2.1, K.2.2.2.2.2.2.2.2.1, K.2.2.2.2.2.2.2.2.2.1, K.2.2.2.2.2.2.2.2.2.2.1, K.2.2.2.2.2.2.2.2.2.2.2.1, K.2.2.2.2.2.2.2.2.2.2.2.2.1, K.2.2.2.2.2.2.2.2.2.2.2.2.2.1, K.2.2.2.2.2.2.2.2.2.2.2.2.2.2.1, K.2.2.2.2.2.2.2.2.2.2.2.2.2.2.2.1, K.2.2.2.2.2.2.2.2.2.2.2.2.2.2.2.2.1, K.2.2.2.2.2.2.2.2.2.2.2.2.2.2.2.2.2.1, K.2.2.2.2.2.2.2.2.2.2.2.2.2.2.2.2.2.2.1, K.2.2.2.2.2.2.2.2.2.2.2.2.2.2.2.2.2.2.2.1, K.2.2.2.2.2.2.2.2.2.2.2.2.2.2.2.2.2.2.2.2)
def k_nu (K : KT) : Nat := K.2.2.2.2.2.2.1
def k_snu (K : KT) (y : Nat) : KT := (K.1, K.2.1, K.2.2.1, K.2.2.2.1, K.2.2.2.2.1, K.2.2.2.2.2.1, y, K.2.2.2.2.2.2.2.1, K.2.2.2.2.2.2.2.2.1, K.2.2.2.2.2.2.2.2.2.1, K.2.2.2.2.2.2.2.2.2.2.1, K.2.2.2.2.2.2.2.2.2.2.2.1, K.2.2.2.2.2.2.2.2.2.2.2.2.1, K.2.2.2.2.2.2.2.2.2.2.2.2.2.1, K.2.2.2.2.2.2.2.2.2.2.2.2.2.2.1, K.2.2.2.2.2.2.2.2.2.2.2.2.2.2.2.1, K.2.2.2.2.2.2.2.2.2.2.2.2.2.2.2.2.1, K.2.2.2.2.2.2.2.2.2.2.2.2.2.2.2.2.2.1, K.2.2.2.2.2.2.2.2.2.2.2.2.2.2.2.2.2.2.1, K.2.2.2.2.2.2.2.2.2.2.2.2.2.2.2.2.2.2.2.1, K.2.2.2.2.2.2.2.2.2.2.2.2.2.2.2.2.2.2.2.2)
def k_dn (K : KT) : Nat := K.2.2.2.2.2.2.2.1
def k_sdn (K : KT) (y : Nat) : KT := (K.1, K.2.1, K.2.2.1, K.2.2.2.1, K.2.2.2.2.1, K.2.2.2.2.2.1, K.2.2.2.2.2.2.1, y, K.2.2.2.2.2.2.2.2.1, K.2.2.2.2.2.2.2.2.2.1, K.2.2.2.2.2.2.2.2.2.2.1, K.2.2.2.2.2.2.2.2.2.2.2.1, K.2.2.2.2.2.2.2.2.2.2.2.2.1, K.2.2.2.2.2.2.2.2.2.2.2.2.2.1, K.2.2.2.2.2.2.2.2.2.2.2.2.2.2.1, K.2.2.2.2.2.2.2.2.2.2.2.2.2.2.2.1, K.2.2.2.2.2.2.2.2.2.2.2.2.2.2.2.2.1, K.2.2.2.2.2.2.2.2.2.2.2.2.2.2.2.2.2.1, K.2.2.2.2.2.2.2.2.2.2.2.2.2.2.2.2.2.2.1, K.2.2.2.2.2.2.2.2.2.2.2.2.2.2.2.2.2.2.2.1, K.2.2.2.2.2.2.2.2.2.2.2.2.2.2.2.2.2.2.2.2)
def k_tl (K : KT) : Int32 := K.2.2.2.2.2.2.2.2.1
def k_stl (K : KT) (y : Int32) : KT := (K.1, K.2.1, K.2.2.1, K.2.2.2.1, K.2.2.2.2.1, K.2.2.2.2.2.1, K.2.2.2.2.2.2.1, K.2.2.2.2.2.2.2.1, y, K.2.2.2.2.2.2.2.2.2.1, K.2.2.2.2.2.2.2.2.2.2.1, K.2.2.2.2.2.2.2.2.2.2.2.1, K.2.2.2.2.2.2.2.2.2.2.2.2.1, K.2.2.2.2.2.2.2.2.2.2.2.2.2.1, K.2.2.2.2.2.2.2.2.2.2.2.2.2.2.1, K.2.2.2.2.2.2.2.2.2.2.2.2.2.2.2.1, K.2.2.2.2.2.2.2.2.2.2.2.2.2.2.2.2.1, K.2.2.2.2.2.2.2.2.2.2.2.2.2.2.2.2.2.1, K.2.2.2.2.2.2.2.2.2.2.2.2.2.2.2.2.2.2.1, K.2.2.2.2.2.2.2.2.2.2.2.2.2.2.2.2.2.2.2.1, K.2.2.2.2.2.2.2.2.2.2.2.2.2.2.2.2.2.2.2.2)
def k_tr (K : KT) : Nat → Int32 := K.2.2.2.2.2.2.2.2.2.1
def k_str (K : KT) (y : Nat → Int32) : KT := (K.1, K.2.1, K.2.2.1, K.2.2.2.1, K.2.2.2.2.1, K.2.2.2.2.2.1, K.2.2.2.2.2.2.1, K.2.2.2.2.2.2.2.1, K.2.2.2.2.2.2.2.2.1, y, K.2.2.2.2.2.2.2.2.2.2.1, K.2.2.2.2.2.2.2.2.2.2.2.1, K.2.2.2.2.2.2.2.2.2.2.2.2.1, K.2.2.2.2.2.2.2.2.2.2.2.2.2.1, K.2.2.2.2.2.2.2.2.2.2.2.2.2.2.1, K.2.2.2.2.2.2.2.2.2.2.2.2.2.2.2.1, K.2.2.2.2.2.2.2.2.2.2.2.2.2.2.2.2.1, K.2.2.2.2.2.2.2.2.2.2.2.2.2.2.2.2.2.1, K.2.2.2.2.2.2.2.2.2.2.2.2.2.2.2.2.2.2.1, K.2.2.2.2.2.2.2.2.2.2.2.2.2.2.2.2.2.2.2.1, K.2.2.2.2.2.2.2.2.2.2.2.2.2.2.2.2.2.2.2.2)
def k_tc (K : KT) : Nat → Int32 := K.2.2.2.2.2.2.2.2.2.2.1
def k_stc (K : KT) (y : Nat → Int32) : KT := (K.1, K.2.1, K.2.2.1, K.2.2.2.1, K.2.2.2.2.1, K.2.2.2.2.2.1, K.2.2.2.2.2.2.1, K.2.2.2.2.2.2.2.1, K.2.2.2.2.2.2.2.2.1, K.2.2.2.2.2.2.2.2.2.1, y, K.2.2.2.2.2.2.2.2.2.2.2.1, K.2.2.2.2.2.2.2.2.2.2.2.2.1, K.2.2.2.2.2.2.2.2.2.2.2.2.2.1, K.2.2.2.2.2.2.2.2.2.2.2.2.2.2.1, K.2.2.2.2.2.2.2.2.2.2.2.2.2.2.2.1, K.2.2.2.2.2.2.2.2.2.2.2.2.2.2.2.2.1, K.2.2.2.2.2.2.2.2.2.2.2.2.2.2.2.2.2.1, K.2.2.2.2.2.2.2.2.2.2.2.2.2.2.2.2.2.2.1, K.2.2.2.2.2.2.2.2.2.2.2.2.2.2.2.2.2.2.2.1, K.2.2.2.2.2.2.2.2.2.2.2.2.2.2.2.2.2.2.2.2)
def k_tv (K : KT) : Nat → Int64 := K.2.2.2.2.2.2.2.2.2.2.2.1
def k_stv (K : KT) (y : Nat → Int64) : KT := (K.1, K.2.1, K.2.2.1, K.2.2.2.1, K.2.2.2.2.1, K.2.2.2.2.2.1, K.2.2.2.2.2.2.1, K.2.2.2.2.2.2.2.1, K.2.2.2.2.2.2.2.2.1, K.2.2.2.2.2.2.2.2.2.1, K.2.2.2.2.2.2.2.2.2.2.1, y, K.2.2.2.2.2.2.2.2.2.2.2.2.1, K.2.2.2.2.2.2.2.2.2.2.2.2.2.1, K.2.2.2.2.2.2.2.2.2.2.2.2.2.2.1, K.2.2.2.2.2.2.2.2.2.2.2.2.2.2.2.1, K.2.2.2.2.2.2.2.2.2.2.2.2.2.2.2.2.1, K.2.2.2.2.2.2.2.2.2.2.2.2.2.2.2.2.2.1, K.2.2.2.2.2.2.2.2.2.2.2.2.2.2.2.2.2.2.1, K.2.2.2.2.2.2.2.2.2.2.2.2.2.2.2.2.2.2.2.1, K.2.2.2.2.2.2.2.2.2.2.2.2.2.2.2.2.2.2.2.2)
def k_nl (K : KT) : Nat → Int32 := K.2.2.2.2.2.2.2.2.2.2.2.2.1
def k_snl (K : KT) (y : Nat → Int32) : KT := (K.1, K.2.1, K.2.2.1, K.2.2.2.1, K.2.2.2.2.1, K.2.2.2.2.2.1, K.2.2.2.2.2.2.1, K.2.2.2.2.2.2.2.1, K.2.2.2.2.2.2.2.2.1, K.2.2.2.2.2.2.2.2.2.1, K.2.2.2.2.2.2.2.2.2.2.1, K.2.2.2.2.2.2.2.2.2.2.2.1, y, K.2.2.2.2.2.2.2.2.2.2.2.2.2.1, K.2.2.2.2.2.2.2.2.2.2.2.2.2.2.1, K.2.2.2.2.2.2.2.2.2.2.2.2.2.2.2.1, K.2.2.2.2.2.2.2.2.2.2.2.2.2.2.2.2.1, K.2.2.2.2.2.2.2.2.2.2.2.2.2.2.2.2.2.1, K.2.2.2.2.2.2.2.2.2.2.2.2.2.2.2.2.2.2.1, K.2.2.2.2.2.2.2.2.2.2.2.2.2.2.2.2.2.2.2.1, K.2.2.2.2.2.2.2.2.2.2.2.2.2.2.2.2.2.2.2.2)
def k_it (K : KT) : Nat → Nat → Int32 := K.2.2.2.2.2.2.2.2.2.2.2.2.2.1
def k_sit (K : KT) (y : Nat → Nat → Int32) : KT := (K.1, K.2.1, K.2.2.1, K.2.2.2.1, K.2.2.2.2.1, K.2.2.2.2.2.1, K.2.2.2.2.2.2.1, K.2.2.2.2.2.2.2.1, K.2.2.2.2.2.2.2.2.1, K.2.2.2.2.2.2.2.2.2.1, K.2.2.2.2.2.2.2.2.2.2.1, K.2.2.2.2.2.2.2.2.2.2.2.1, K.2.2.2.2.2.2.2.2.2.2.2.2.1, y, K.2.2.2.2.2.2.2.2.2.2.2.2.2.2.1, K.2.2.2.2.2.2.2.2.2.2.2.2.2.2.2.1, K.2.2.2.2.2.2.2.2.2.2.2.2.2.2.2.2.1, K.2.2.2.2.2.2.2.2.2.2.2.2.2.2.2.2.2.1, K.2.2.2.2.2.2.2.2.2.2.2.2.2.2.2.2.2.2.1, K.2.2.2.2.2.2.2.2.2.2.2.2.2.2.2.2.2.2.2.1, K.2.2.2.2.2.2.2.2.2.2.2.2.2.2.2.2.2.2.2.2)
def k_gz (K : KT) : Int32 := K.2.2.2.2.2.2.2.2.2.2.2.2.2.2.1
def k_sgz (K : KT) (y : Int32) : KT := (K.1, K.2.1, K.2.2.1, K.2.2.2.1, K.2.2.2.2.1, K.2.2.2.2.2.1, K.2.2.2.2.2.2.1, K.2.2.2.2.2.2.2.1, K.2.2.2.2.2.2.2.2.1, K.2.2.2.2.2.2.2.2.2.1, K.2.2.2.2.2.2.2.2.2.2.1, K.2.2.2.2.2.2.2.2.2.2.2.1, K.2.2.2.2.2.2.2.2.2.2.2.2.1, K.2.2.2.2.2.2.2.2.2.2.2.2.2.1, y, K.2.2.2.2.2.2.2.2.2.2.2.2.2.2.2.1, K.2.2.2.2.2.2.2.2.2.2.2.2.2.2.2.2.1, K.2.2.2.2.2.2.2.2.2.2.2.2.2.2.2.2.2.1, K.2.2.2.2.2.2.2.2.2.2.2.2.2.2.2.2.2.2.1, K.2.2.2.2.2.2.2.2.2.2.2.2.2.2.2.2.2.2.2.1, K.2.2.2.2.2.2.2.2.2.2.2.2.2.2.2.2.2.2.2.2)
def k_ar (K : KT) : Nat → Int32 := K.2.2.2.2.2.2.2.2.2.2.2.2.2.2.2.1
def k_sar (K : KT) (y : Nat → Int32) : KT := (K.1, K.2.1, K.2.2.1, K.2.2.2.1, K.2.2.2.2.1, K.2.2.2.2.2.1, K.2.2.2.2.2.2.1, K.2.2.2.2.2.2.2.1, K.2.2.2.2.2.2.2.2.1, K.2.2.2.2.2.2.2.2.2.1, K.2.2.2.2.2.2.2.2.2.2.1, K.2.2.2.2.2.2.2.2.2.2.2.1, K.2.2.2.2.2.2.2.2.2.2.2.2.1, K.2.2.2.2.2.2.2.2.2.2.2.2.2.1, K.2.2.2.2.2.2.2.2.2.2.2.2.2.2.1, y, K.2.2.2.2.2.2.2.2.2.2.2.2.2.2.2.2.1, K.2.2.2.2.2.2.2.2.2.2.2.2.2.2.2.2.2.1, K.2.2.2.2.2.2.2.2.2.2.2.2.2.2.2.2.2.2.1, K.2.2.2.2.2.2.2.2.2.2.2.2.2.2.2.2.2.2.2.1, K.2.2.2.2.2.2.2.2.2.2.2.2.2.2.2.2.2.2.2.2)
def k_ne (K : KT) : Nat → Int32 := K.2.2.2.2.2.2.2.2.2.2.2.2.2.2.2.2.1
def k_sne (K : KT) (y : Nat → Int32) : KT := (K.1, K.2.1, K.2.2.1, K.2.2.2.1, K.2.2.2.2.1, K.2.2.2.2.2.1, K.2.2.2.2.2.2.1, K.2.2.2.2.2.2.2.1, K.2.2.2.2.2.2.2.2.1, K.2.2.2.2.2.2.2.2.2.1, K.2.2.2.2.2.2.2.2.2.2.1, K.2.2.2.2.2.2.2.2.2.2.2.1, K.2.2.2.2.2.2.2.2.2.2.2.2.1, K.2.2.2.2.2.2.2.2.2.2.2.2.2.1, K.2.2.2.2.2.2.2.2.2.2.2.2.2.2.1, K.2.2.2.2.2.2.2.2.2.2.2.2.2.2.2.1, y, K.2.2.2.2.2.2.2.2.2.2.2.2.2.2.2.2.2.1, K.2.2.2.2.2.2.2.2.2.2.2.2.2.2.2.2.2.2.1, K.2.2.2.2.2.2.2.2.2.2.2.2.2.2.2.2.2.2.2.1, K.2.2.2.2.2.2.2.2.2.2.2.2.2.2.2.2.2.2.2.2)
def k_re (K : KT) : Nat → Int32 := K.2.2.2.2.2.2.2.2.2.2.2.2.2.2.2.2.2.1
def k_sre (K : KT) (y : Nat → Int32) : KT := (K.1, K.2.1, K.2.2.1, K.2.2.2.1, K.2.2.2.2.1, K.2.2.2.2.2.1, K.2.2.2.2.2.2.1, K.2.2.2.2.2.2.2.1, K.2.2.2.2.2.2.2.2.1, K.2.2.2.2.2.2.2.2.2.1, K.2.2.2.2.2.2.2.2.2.2.1, K.2.2.2.2.2.2.2.2.2.2.2.1, K.2.2.2.2.2.2.2.2.2.2.2.2.1, K.2.2.2.2.2.2.2.2.2.2.2.2.2.1, K.2.2.2.2.2.2.2.2.2.2.2.2.2.2.1, K.2.2.2.2.2.2.2.2.2.2.2.2.2.2.2.1, K.2.2.2.2.2.2.2.2.2.2.2.2.2.2.2.2.1, y, K.2.2.2.2.2.2.2.2.2.2.2.2.2.2.2.2.2.2.1, K.2.2.2.2.2.2.2.2.2.2.2.2.2.2.2.2.2.2.2.1, K.2.2.2.2.2.2.2.2.2.2.2.2.2.2.2.2.2.2.2.2)
def k_sj (K : KT) : Nat → Nat → Int64 := K.2.2.2.2.2.2.2.2.2.2.2.2.2.2.2.2.2.2.1
def k_ssj (K : KT) (y : Nat → Nat → Int64) : KT := (K.1, K.2.1, K.2.2.1, K.2.2.2.1, K.2.2.2.2.1, K.2.2.2.2.2.1, K.2.2.2.2.2.2.1, K.2.2.2.2.2.2.2.1, K.2.2.2.2.2.2.2.2.1, K.2.2.2.2.2.2.2.2.2.1, K.2.2.2.2.2.2.2.2.2.2.1, K.2.2.2.2.2.2.2.2.2.2.2.1, K.2.2.2.2.2.2.2.2.2.2.2.2.1, K.2.2.2.2.2.2.2.2.2.2.2.2.2.1, K.2.2.2.2.2.2.2.2.2.2.2.2.2.2.1, K.2.2.2.2.2.2.2.2.2.2.2.2.2.2.2.1, K.2.2.2.2.2.2.2.2.2.2.2.2.2.2.2.2.1, K.2.2.2.2.2.2.2.2.2.2.2.2.2.2.2.2.2.1, y, K.2.2.2.2.2.2.2.2.2.2.2.2.2.2.2.2.2.2.2.1, K.2.2.2.2.2.2.2.2.2.2.2.2.2.2.2.2.2.2.2.2)
def k_st (K : KT) : Nat := K.2.2.2.2.2.2.2.2.2.2.2.2.2.2.2.2.2.2.2.1
def k_sst (K : KT) (y : Nat) : KT := (K.1, K.2.1, K.2.2.1, K.2.2.2.1, K.2.2.2.2.1, K.2.2.2.2.2.1, K.2.2.2.2.2.2.1, K.2.2.2.2.2.2.2.1, K.2.2.2.2.2.2.2.2.1, K.2.2.2.2.2.2.2.2.2.1, K.2.2.2.2.2.2.2.2.2.2.1, K.2.2.2.2.2.2.2.2.2.2.2.1, K.2.2.2.2.2.2.2.2.2.2.2.2.1, K.2.2.2.2.2.2.2.2.2.2.2.2.2.1, K.2.2.2.2.2.2.2.2.2.2.2.2.2.2.1, K.2.2.2.2.2.2.2.2.2.2.2.2.2.2.2.1, K.2.2.2.2.2.2.2.2.2.2.2.2.2.2.2.2.1, K.2.2.2.2.2.2.2.2.2.2.2.2.2.2.2.2.2.1, K.2.2.2.2.2.2.2.2.2.2.2.2.2.2.2.2.2.2.1, y, K.2.2.2.2.2.2.2.2.2.2.2.2.2.2.2.2.2.2.2.2)
def k_nx (K : KT) : Nat := K.2.2.2.2.2.2.2.2.2.2.2.2.2.2.2.2.2.2.2.2
def k_snx (K : KT) (y : Nat) : KT := (K.1, K.2.1, K.2.2.1, K.2.2.2.1, K.2.2.2.2.1, K.2.2.2.2.2.1, K.2.2.2.2.2.2.1, K.2.2.2.2.2.2.2.1, K.2.2.2.2.2.2.2.2.1, K.2.2.2.2.2.2.2.2.2.1, K.2.2.2.2.2.2.2.2.2.2.1, K.2.2.2.2.2.2.2.2.2.2.2.1, K.2.2.2.2.2.2.2.2.2.2.2.2.1, K.2.2.2.2.2.2.2.2.2.2.2.2.2.1, K.2.2.2.2.2.2.2.2.2.2.2.2.2.2.1, K.2.2.2.2.2.2.2.2.2.2.2.2.2.2.2.1, K.2.2.2.2.2.2.2.2.2.2.2.2.2.2.2.2.1, K.2.2.2.2.2.2.2.2.2.2.2.2.2.2.2.2.2.1, K.2.2.2.2.2.2.2.2.2.2.2.2.2.2.2.2.2.2.1, K.2.2.2.2.2.2.2.2.2.2.2.2.2.2.2.2.2.2.2.1, y)
theorem k_rc_src (K : KT) (y : Nat → Int32) : k_rc (k_src K y) = y := rfl
theorem k_cc_src (K : KT) (y : Nat → Int32) : k_cc (k_src K y) = k_cc K := rfl
theorem k_kc_src (K : KT) (y : Nat → Int32) : k_kc (k_src K y) = k_kc K := rfl
theorem k_vs_src (K : KT) (y : Nat → Int32) : k_vs (k_src K y) = k_vs K := rfl
theorem k_sl_src (K : KT) (y : Nat → Int32) : k_sl (k_src K y) = k_sl K := rfl
theorem k_d_src (K : KT) (y : Nat → Int32) : k_d (k_src K y) = k_d K := rfl
theorem k_nu_src (K : KT) (y : Nat → Int32) : k_nu (k_src K y) = k_nu K := rfl
theorem k_dn_src (K : KT) (y : Nat → Int32) : k_dn (k_src K y) = k_dn K := rfl
theorem k_tl_src (K : KT) (y : Nat → Int32) : k_tl (k_src K y) = k_tl K := rfl
theorem k_tr_src (K : KT) (y : Nat → Int32) : k_tr (k_src K y) = k_tr K := rfl
theorem k_tc_src (K : KT) (y : Nat → Int32) : k_tc (k_src K y) = k_tc K := rfl
theorem k_tv_src (K : KT) (y : Nat → Int32) : k_tv (k_src K y) = k_tv K := rfl
theorem k_nl_src (K : KT) (y : Nat → Int32) : k_nl (k_src K y) = k_nl K := rfl
theorem k_it_src (K : KT) (y : Nat → Int32) : k_it (k_src K y) = k_it K := rfl
theorem k_gz_src (K : KT) (y : Nat → Int32) : k_gz (k_src K y) = k_gz K := rfl
theorem k_ar_src (K : KT) (y : Nat → Int32) : k_ar (k_src K y) = k_ar K := rfl
theorem k_ne_src (K : KT) (y : Nat → Int32) : k_ne (k_src K y) = k_ne K := rfl
theorem k_re_src (K : KT) (y : Nat → Int32) : k_re (k_src K y) = k_re K := rfl
theorem k_sj_src (K : KT) (y : Nat → Int32) : k_sj (k_src K y) = k_sj K := rfl
theorem k_st_src (K : KT) (y : Nat → Int32) : k_st (k_src K y) = k_st K := rfl
theorem k_nx_src (K : KT) (y : Nat → Int32) : k_nx (k_src K y) = k_nx K := rfl
theorem k_src_src (K : KT) (y z : Nat → Int32) : k_src (k_src K y) z = k_src K z := rfl
theorem k_src_self (K : KT) : k_src K (k_rc K) = K := rfl
theorem k_rc_scc (K : KT) (y : Nat → Int32) : k_rc (k_scc K y) = k_rc K := rfl
theorem k_cc_scc (K : KT) (y : Nat → Int32) : k_cc (k_scc K y) = y := rfl
theorem k_kc_scc (K : KT) (y : Nat → Int32) : k_kc (k_scc K y) = k_kc K := rfl
theorem k_vs_scc (K : KT) (y : Nat → Int32) : k_vs (k_scc K y) = k_vs K := rfl
theorem k_sl_scc (K : KT) (y : Nat → Int32) : k_sl (k_scc K y) = k_sl K := rfl
theorem k_d_scc (K : KT) (y : Nat → Int32) : k_d (k_scc K y) = k_d K := rfl
theorem k_nu_scc (K : KT) (y : Nat → Int32) : k_nu (k_scc K y) = k_nu K := rfl
theorem k_dn_scc (K : KT) (y : Nat → Int32) : k_dn (k_scc K y) = k_dn K := rfl
theorem k_tl_scc (K : KT) (y : Nat → Int32) : k_tl (k_scc K y) = k_tl K := rfl
theorem k_tr_scc (K : KT) (y : Nat → Int32) : k_tr (k_scc K y) = k_tr K := rfl
theorem k_tc_scc (K : KT) (y : Nat → Int32) : k_tc (k_scc K y) = k_tc K := rfl
theorem k_tv_scc (K : KT) (y : Nat → Int32) : k_tv (k_scc K y) = k_tv K := rfl
theorem k_nl_scc (K : KT) (y : Nat → Int32) : k_nl (k_scc K y) = k_nl K := rfl
theorem k_it_scc (K : KT) (y : Nat → Int32) : k_it (k_scc K y) = k_it K := rfl
theorem k_gz_scc (K : KT) (y : Nat → Int32) : k_gz (k_scc K y) = k_gz K := rfl
theorem k_ar_scc (K : KT) (y : Nat → Int32) : k_ar (k_scc K y) = k_ar K := rfl
theorem k_ne_scc (K : KT) (y : Nat → Int32) : k_ne (k_scc K y) = k_ne K := rfl
theorem k_re_scc (K : KT) (y : Nat → Int32) : k_re (k_scc K y) = k_re K := rfl
theorem k_sj_scc (K : KT) (y : Nat → Int32) : k_sj (k_scc K y) = k_sj K := rfl
theorem k_st_scc (K : KT) (y : Nat → Int32) : k_st (k_scc K y) = k_st K := rfl
theorem k_nx_scc (K : KT) (y : Nat → Int32) : k_nx (k_scc K y) = k_nx K := rfl
theorem k_scc_scc (K : KT) (y z : Nat → Int32) : k_scc (k_scc K y) z = k_scc K z := rfl
theorem k_scc_self (K : KT) : k_scc K (k_cc K) = K := rfl
theorem k_rc_skc (K : KT) (y : Nat → Nat → Int32) : k_rc (k_skc K y) = k_rc K := rfl
theorem k_cc_skc (K : KT) (y : Nat → Nat → Int32) : k_cc (k_skc K y) = k_cc K := rfl
theorem k_kc_skc (K : KT) (y : Nat → Nat → Int32) : k_kc (k_skc K y) = y := rfl
theorem k_vs_skc (K : KT) (y : Nat → Nat → Int32) : k_vs (k_skc K y) = k_vs K := rfl
theorem k_sl_skc (K : KT) (y : Nat → Nat → Int32) : k_sl (k_skc K y) = k_sl K := rfl
theorem k_d_skc (K : KT) (y : Nat → Nat → Int32) : k_d (k_skc K y) = k_d K := rfl
theorem k_nu_skc (K : KT) (y : Nat → Nat → Int32) : k_nu (k_skc K y) = k_nu K := rfl
theorem k_dn_skc (K : KT) (y : Nat → Nat → Int32) : k_dn (k_skc K y) = k_dn K := rfl
theorem k_tl_skc (K : KT) (y : Nat → Nat → Int32) : k_tl (k_skc K y) = k_tl K := rfl
theorem k_tr_skc (K : KT) (y : Nat → Nat → Int32) : k_tr (k_skc K y) = k_tr K := rfl
theorem k_tc_skc (K : KT) (y : Nat → Nat → Int32) : k_tc (k_skc K y) = k_tc K := rfl
theorem k_tv_skc (K : KT) (y : Nat → Nat → Int32) : k_tv (k_skc K y) = k_tv K := rfl
theorem k_nl_skc (K : KT) (y : Nat → Nat → Int32) : k_nl (k_skc K y) = k_nl K := rfl
theorem k_it_skc (K : KT) (y : Nat → Nat → Int32) : k_it (k_skc K y) = k_it K := rfl
theorem k_gz_skc (K : KT) (y : Nat → Nat → Int32) : k_gz (k_skc K y) = k_gz K := rfl
theorem k_ar_skc (K : KT) (y : Nat → Nat → Int32) : k_ar (k_skc K y) = k_ar K := rfl
theorem k_ne_skc (K : KT) (y : Nat → Nat → Int32) : k_ne (k_skc K y) = k_ne K := rfl
theorem k_re_skc (K : KT) (y : Nat → Nat → Int32) : k_re (k_skc K y) = k_re K := rfl
theorem k_sj_skc (K : KT) (y : Nat → Nat → Int32) : k_sj (k_skc K y) = k_sj K := rfl
theorem k_st_skc (K : KT) (y : Nat → Nat → Int32) : k_st (k_skc K y) = k_st K := rfl
theorem k_nx_skc (K : KT) (y : Nat → Nat → Int32) : k_nx (k_skc K y) = k_nx K := rfl
theorem k_skc_skc (K : KT) (y z : Nat → Nat → Int32) : k_skc (k_skc K y) z = k_skc K z := rfl
theorem k_skc_self (K : KT) : k_skc K (k_kc K) = K := rfl
theorem k_rc_svs (K : KT) (y : Nat → Nat → Int64) : k_rc (k_svs K y) = k_rc K := rfl
theorem k_cc_svs (K : KT) (y : Nat → Nat → Int64) : k_cc (k_svs K y) = k_cc K := rfl
theorem k_kc_svs (K : KT) (y : Nat → Nat → Int64) : k_kc (k_svs K y) = k_kc K := rfl
theorem k_vs_svs (K : KT) (y : Nat → Nat → Int64) : k_vs (k_svs K y) = y := rfl
theorem k_sl_svs (K : KT) (y : Nat → Nat → Int64) : k_sl (k_svs K y) = k_sl K := rfl
theorem k_d_svs (K : KT) (y : Nat → Nat → Int64) : k_d (k_svs K y) = k_d K := rfl
theorem k_nu_svs (K : KT) (y : Nat → Nat → Int64) : k_nu (k_svs K y) = k_nu K := rfl
theorem k_dn_svs (K : KT) (y : Nat → Nat → Int64) : k_dn (k_svs K y) = k_dn K := rfl
theorem k_tl_svs (K : KT) (y : Nat → Nat → Int64) : k_tl (k_svs K y) = k_tl K := rfl
theorem k_tr_svs (K : KT) (y : Nat → Nat → Int64) : k_tr (k_svs K y) = k_tr K := rfl
theorem k_tc_svs (K : KT) (y : Nat → Nat → Int64) : k_tc (k_svs K y) = k_tc K := rfl
theorem k_tv_svs (K : KT) (y : Nat → Nat → Int64) : k_tv (k_svs K y) = k_tv K := rfl
theorem k_nl_svs (K : KT) (y : Nat → Nat → Int64) : k_nl (k_svs K y) = k_nl K := rfl
theorem k_it_svs (K : KT) (y : Nat → Nat → Int64) : k_it (k_svs K y) = k_it K := rfl
theorem k_gz_svs (K : KT) (y : Nat → Nat → Int64) : k_gz (k_svs K y) = k_gz K := rfl
theorem k_ar_svs (K : KT) (y : Nat → Nat → Int64) : k_ar (k_svs K y) = k_ar K := rfl
theorem k_ne_svs (K : KT) (y : Nat → Nat → Int64) : k_ne (k_svs K y) = k_ne K := rfl
theorem k_re_svs (K : KT) (y : Nat → Nat → Int64) : k_re (k_svs K y) = k_re K := rfl
theorem k_sj_svs (K : KT) (y : Nat → Nat → Int64) : k_sj (k_svs K y) = k_sj K := rfl
theorem k_st_svs (K : KT) (y : Nat → Nat → Int64) : k_st (k_svs K y) = k_st K := rfl
theorem k_nx_svs (K : KT) (y : Nat → Nat → Int64) : k_nx (k_svs K y) = k_nx K := rfl
theorem k_svs_svs (K : KT) (y z : Nat → Nat → Int64) : k_svs (k_svs K y) z = k_svs K z := rfl
theorem k_svs_self (K : KT) : k_svs K (k_vs K) = K := rfl
theorem k_rc_ssl (K : KT) (y : Nat → Option Nat) : k_rc (k_ssl K y) = k_rc K := rfl
theorem k_cc_ssl (K : KT) (y : Nat → Option Nat) : k_cc (k_ssl K y) = k_cc K := rfl
theorem k_kc_ssl (K : KT) (y : Nat → Option Nat) : k_kc (k_ssl K y) = k_kc K := rfl
theorem k_vs_ssl (K : KT) (y : Nat → Option Nat) : k_vs (k_ssl K y) = k_vs K := rfl
theorem k_sl_ssl (K : KT) (y : Nat → Option Nat) : k_sl (k_ssl K y) = y := rfl
theorem k_d_ssl (K : KT) (y : Nat → Option Nat) : k_d (k_ssl K y) = k_d K := rfl
theorem k_nu_ssl (K : KT) (y : Nat → Option Nat) : k_nu (k_ssl K y) = k_nu K := rfl
theorem k_dn_ssl (K : KT) (y : Nat → Option Nat) : k_dn (k_ssl K y) = k_dn K := rfl
theorem k_tl_ssl (K : KT) (y : Nat → Option Nat) : k_tl (k_ssl K y) = k_tl K := rfl
theorem k_tr_ssl (K : KT) (y : Nat → Option Nat) : k_tr (k_ssl K y) = k_tr K := rfl
theorem k_tc_ssl (K : KT) (y : Nat → Option Nat) : k_tc (k_ssl K y) = k_tc K := rfl
theorem k_tv_ssl (K : KT) (y : Nat → Option Nat) : k_tv (k_ssl K y) = k_tv K := rfl
theorem k_nl_ssl (K : KT) (y : Nat → Option Nat) : k_nl (k_ssl K y) = k_nl K := rfl
theorem k_it_ssl (K : KT) (y : Nat → Option Nat) : k_it (k_ssl K y) = k_it K := rfl
theorem k_gz_ssl (K : KT) (y : Nat → Option Nat) : k_gz (k_ssl K y) = k_gz K := rfl
theorem k_ar_ssl (K : KT) (y : Nat → Option Nat) : k_ar (k_ssl K y) = k_ar K := rfl
theorem k_ne_ssl (K : KT) (y : Nat → Option Nat) : k_ne (k_ssl K y) = k_ne K := rfl
theorem k_re_ssl (K : KT) (y : Nat → Option Nat) : k_re (k_ssl K y) = k_re K := rfl
theorem k_sj_ssl (K : KT) (y : Nat → Option Nat) : k_sj (k_ssl K y) = k_sj K := rfl
theorem k_st_ssl (K : KT) (y : Nat → Option Nat) : k_st (k_ssl K y) = k_st K := rfl
theorem k_nx_ssl (K : KT) (y : Nat → Option Nat) : k_nx (k_ssl K y) = k_nx K := rfl
theorem k_ssl_ssl (K : KT) (y z : Nat → Option Nat) : k_ssl (k_ssl K y) z = k_ssl K z := rfl
theorem k_ssl_self (K : KT) : k_ssl K (k_sl K) = K := rfl
theorem k_rc_sd (K : KT) (y : Nat) : k_rc (k_sd K y) = k_rc K := rfl
theorem k_cc_sd (K : KT) (y : Nat) : k_cc (k_sd K y) = k_cc K := rfl
theorem k_kc_sd (K : KT) (y : Nat) : k_kc (k_sd K y) = k_kc K := rfl
theorem k_vs_sd (K : KT) (y : Nat) : k_vs (k_sd K y) = k_vs K := rfl
theorem k_sl_sd (K : KT) (y : Nat) : k_sl (k_sd K y) = k_sl K := rfl
theorem k_d_sd (K : KT) (y : Nat) : k_d (k_sd K y) = y := rfl
theorem k_nu_sd (K : KT) (y : Nat) : k_nu (k_sd K y) = k_nu K := rfl
theorem k_dn_sd (K : KT) (y : Nat) : k_dn (k_sd K y) = k_dn K := rfl
theorem k_tl_sd (K : KT) (y : Nat) : k_tl (k_sd K y) = k_tl K := rfl
theorem k_tr_sd (K : KT) (y : Nat) : k_tr (k_sd K y) = k_tr K := rfl
theorem k_tc_sd (K : KT) (y : Nat) : k_tc (k_sd K y) = k_tc K := rfl
theorem k_tv_sd (K : KT) (y : Nat) : k_tv (k_sd K y) = k_tv K := rfl
theorem k_nl_sd (K : KT) (y : Nat) : k_nl (k_sd K y) = k_nl K := rfl
theorem k_it_sd (K : KT) (y : Nat) : k_it (k_sd K y) = k_it K := rfl
theorem k_gz_sd (K : KT) (y : Nat) : k_gz (k_sd K y) = k_gz K := rfl
theorem k_ar_sd (K : KT) (y : Nat) : k_ar (k_sd K y) = k_ar K := rfl
theorem k_ne_sd (K : KT) (y : Nat) : k_ne (k_sd K y) = k_ne K := rfl
theorem k_re_sd (K : KT) (y : Nat) : k_re (k_sd K y) = k_re K := rfl
theorem k_sj_sd (K : KT) (y : Nat) : k_sj (k_sd K y) = k_sj K := rfl
theorem k_st_sd (K : KT) (y : Nat) : k_st (k_sd K y) = k_st K := rfl
theorem k_nx_sd (K : KT) (y : Nat) : k_nx (k_sd K y) = k_nx K := rfl
theorem k_sd_sd (K : KT) (y z : Nat) : k_sd (k_sd K y) z = k_sd K z := rfl
theorem k_sd_self (K : KT) : k_sd K (k_d K) = K := rfl
theorem k_rc_snu (K : KT) (y : Nat) : k_rc (k_snu K y) = k_rc K := rfl
theorem k_cc_snu (K : KT) (y : Nat) : k_cc (k_snu K y) = k_cc K := rfl
theorem k_kc_snu (K : KT) (y : Nat) : k_kc (k_snu K y) = k_kc K := rfl
theorem k_vs_snu (K : KT) (y : Nat) : k_vs (k_snu K y) = k_vs K := rfl
theorem k_sl_snu (K : KT) (y : Nat) : k_sl (k_snu K y) = k_sl K := rfl
theorem k_d_snu (K : KT) (y : Nat) : k_d (k_snu K y) = k_d K := rfl
theorem k_nu_snu (K : KT) (y : Nat) : k_nu (k_snu K y) = y := rfl
theorem k_dn_snu (K : KT) (y : Nat) : k_dn (k_snu K y) = k_dn K := rfl
theorem k_tl_snu (K : KT) (y : Nat) : k_tl (k_snu K y) = k_tl K := rfl
theorem k_tr_snu (K : KT) (y : Nat) : k_tr (k_snu K y) = k_tr K := rfl
theorem k_tc_snu (K : KT) (y : Nat) : k_tc (k_snu K y) = k_tc K := rfl
theorem k_tv_snu (K : KT) (y : Nat) : k_tv (k_snu K y) = k_tv K := rfl
theorem k_nl_snu (K : KT) (y : Nat) : k_nl (k_snu K y) = k_nl K := rfl
theorem k_it_snu (K : KT) (y : Nat) : k_it (k_snu K y) = k_it K := rfl
theorem k_gz_snu (K : KT) (y : Nat) : k_gz (k_snu K y) = k_gz K := rfl
theorem k_ar_snu (K : KT) (y : Nat) : k_ar (k_snu K y) = k_ar K := rfl
theorem k_ne_snu (K : KT) (y : Nat) : k_ne (k_snu K y) = k_ne K := rfl
theorem k_re_snu (K : KT) (y : Nat) : k_re (k_snu K y) = k_re K := rfl
theorem k_sj_snu (K : KT) (y : Nat) : k_sj (k_snu K y) = k_sj K := rfl
theorem k_st_snu (K : KT) (y : Nat) : k_st (k_snu K y) = k_st K := rfl
theorem k_nx_snu (K : KT) (y : Nat) : k_nx (k_snu K y) = k_nx K := rfl
theorem k_snu_snu (K : KT) (y z : Nat) : k_snu (k_snu K y) z = k_snu K z := rfl
theorem k_snu_self (K : KT) : k_snu K (k_nu K) = K := rfl
theorem k_rc_sdn (K : KT) (y : Nat) : k_rc (k_sdn K y) = k_rc K := rfl
theorem k_cc_sdn (K : KT) (y : Nat) : k_cc (k_sdn K y) = k_cc K := rfl
theorem k_kc_sdn (K : KT) (y : Nat) : k_kc (k_sdn K y) = k_kc K := rfl
theorem k_vs_sdn (K : KT) (y : Nat) : k_vs (k_sdn K y) = k_vs K := rfl
theorem k_sl_sdn (K : KT) (y : Nat) : k_sl (k_sdn K y) = k_sl K := rfl
theorem k_d_sdn (K : KT) (y : Nat) : k_d (k_sdn K y) = k_d K := rfl
theorem k_nu_sdn (K : KT) (y : Nat) : k_nu (k_sdn K y) = k_nu K := rfl
theorem k_dn_sdn (K : KT) (y : Nat) : k_dn (k_sdn K y) = y := rfl
theorem k_tl_sdn (K : KT) (y : Nat) : k_tl (k_sdn K y) = k_tl K := rfl
theorem k_tr_sdn (K : KT) (y : Nat) : k_tr (k_sdn K y) = k_tr K := rfl
theorem k_tc_sdn (K : KT) (y : Nat) : k_tc (k_sdn K y) = k_tc K := rfl
theorem k_tv_sdn (K : KT) (y : Nat) : k_tv (k_sdn K y) = k_tv K := rfl
theorem k_nl_sdn (K : KT) (y : Nat) : k_nl (k_sdn K y) = k_nl K := rfl
theorem k_it_sdn (K : KT) (y : Nat) : k_it (k_sdn K y) = k_it K := rfl
theorem k_gz_sdn (K : KT) (y : Nat) : k_gz (k_sdn K y) = k_gz K := rfl
theorem k_ar_sdn (K : KT) (y : Nat) : k_ar (k_sdn K y) = k_ar K := rfl
theorem k_ne_sdn (K : KT) (y : Nat) : k_ne (k_sdn K y) = k_ne K := rfl
theorem k_re_sdn (K : KT) (y : Nat) : k_re (k_sdn K y) = k_re K := rfl
theorem k_sj_sdn (K : KT) (y : Nat) : k_sj (k_sdn K y) = k_sj K := rfl
theorem k_st_sdn (K : KT) (y : Nat) : k_st (k_sdn K y) = k_st K := rfl
theorem k_nx_sdn (K : KT) (y : Nat) : k_nx (k_sdn K y) = k_nx K := rfl
theorem k_sdn_sdn (K : KT) (y z : Nat) : k_sdn (k_sdn K y) z = k_sdn K z := rfl
theorem k_sdn_self (K : KT) : k_sdn K (k_dn K) = K := rfl
theorem k_rc_stl (K : KT) (y : Int32) : k_rc (k_stl K y) = k_rc K := rfl
theorem k_cc_stl (K : KT) (y : Int32) : k_cc (k_stl K y) = k_cc K := rfl
theorem k_kc_stl (K : KT) (y : Int32) : k_kc (k_stl K y) = k_kc K := rfl
theorem k_vs_stl (K : KT) (y : Int32) : k_vs (k_stl K y) = k_vs K := rfl
theorem k_sl_stl (K : KT) (y : Int32) : k_sl (k_stl K y) = k_sl K := rfl
theorem k_d_stl (K : KT) (y : Int32) : k_d (k_stl K y) = k_d K := rfl
theorem k_nu_stl (K : KT) (y : Int32) : k_nu (k_stl K y) = k_nu K := rfl
theorem k_dn_stl (K : KT) (y : Int32) : k_dn (k_stl K y) = k_dn K := rfl
theorem k_tl_stl (K : KT) (y : Int32) : k_tl (k_stl K y) = y := rfl
theorem k_tr_stl (K : KT) (y : Int32) : k_tr (k_stl K y) = k_tr K := rfl
theorem k_tc_stl (K : KT) (y : Int32) : k_tc (k_stl K y) = k_tc K := rfl
theorem k_tv_stl (K : KT) (y : Int32) : k_tv (k_stl K y) = k_tv K := rfl
theorem k_nl_stl (K : KT) (y : Int32) : k_nl (k_stl K y) = k_nl K := rfl
theorem k_it_stl (K : KT) (y : Int32) : k_it (k_stl K y) = k_it K := rfl
theorem k_gz_stl (K : KT) (y : Int32) : k_gz (k_stl K y) = k_gz K := rfl
theorem k_ar_stl (K : KT) (y : Int32) : k_ar (k_stl K y) = k_ar K := rfl
theorem k_ne_stl (K : KT) (y : Int32) : k_ne (k_stl K y) = k_ne K := rfl
theorem k_re_stl (K : KT) (y : Int32) : k_re (k_stl K y) = k_re K := rfl
theorem k_sj_stl (K : KT) (y : Int32) : k_sj (k_stl K y) = k_sj K := rfl
theorem k_st_stl (K : KT) (y : Int32) : k_st (k_stl K y) = k_st K := rfl
theorem k_nx_stl (K : KT) (y : Int32) : k_nx (k_stl K y) = k_nx K := rfl
theorem k_stl_stl (K : KT) (y z : Int32) : k_stl (k_stl K y) z = k_stl K z := rfl
theorem k_stl_self (K : KT) : k_stl K (k_tl K) = K := rfl
theorem k_rc_str (K : KT) (y : Nat → Int32) : k_rc (k_str K y) = k_rc K := rfl
theorem k_cc_str (K : KT) (y : Nat → Int32) : k_cc (k_str K y) = k_cc K := rfl
theorem k_kc_str (K : KT) (y : Nat → Int32) : k_kc (k_str K y) = k_kc K := rfl
theorem k_vs_str (K : KT) (y : Nat → Int32) : k_vs (k_str K y) = k_vs K := rfl
theorem k_sl_str (K : KT) (y : Nat → Int32) : k_sl (k_str K y) = k_sl K := rfl
theorem k_d_str (K : KT) (y : Nat → Int32) : k_d (k_str K y) = k_d K := rfl
theorem k_nu_str (K : KT) (y : Nat → Int32) : k_nu (k_str K y) = k_nu K := rfl
theorem k_dn_str (K : KT) (y : Nat → Int32) : k_dn (k_str K y) = k_dn K := rfl
theorem k_tl_str (K : KT) (y : Nat → Int32) : k_tl (k_str K y) = k_tl K := rfl
theorem k_tr_str (K : KT) (y : Nat → Int32) : k_tr (k_str K y) = y := rfl
theorem k_tc_str (K : KT) (y : Nat → Int32) : k_tc (k_str K y) = k_tc K := rfl
theorem k_tv_str (K : KT) (y : Nat → Int32) : k_tv (k_str K y) = k_tv K := rfl
theorem k_nl_str (K : KT) (y : Nat → Int32) : k_nl (k_str K y) = k_nl K := rfl
theorem k_it_str (K : KT) (y : Nat → Int32) : k_it (k_str K y) = k_it K := rfl
theorem k_gz_str (K : KT) (y : Nat → Int32) : k_gz (k_str K y) = k_gz K := rfl
theorem k_ar_str (K : KT) (y : Nat → Int32) : k_ar (k_str K y) = k_ar K := rfl
theorem k_ne_str (K : KT) (y : Nat → Int32) : k_ne (k_str K y) = k_ne K := rfl
theorem k_re_str (K : KT) (y : Nat → Int32) : k_re (k_str K y) = k_re K := rfl
theorem k_sj_str (K : KT) (y : Nat → Int32) : k_sj (k_str K y) = k_sj K := rfl
theorem k_st_str (K : KT) (y : Nat → Int32) : k_st (k_str K y) = k_st K := rfl
theorem k_nx_str (K : KT) (y : Nat → Int32) : k_nx (k_str K y) = k_nx K := rfl
theorem k_str_str (K : KT) (y z : Nat → Int32) : k_str (k_str K y) z = k_str K z := rfl
theorem k_str_self (K : KT) : k_str K (k_tr K) = K := rfl
theorem k_rc_stc (K : KT) (y : Nat → Int32) : k_rc (k_stc K y) = k_rc K := rfl
theorem k_cc_stc (K : KT) (y : Nat → Int32) : k_cc (k_stc K y) = k_cc K := rfl
theorem k_kc_stc (K : KT) (y : Nat → Int32) : k_kc (k_stc K y) = k_kc K := rfl
theorem k_vs_stc (K : KT) (y : Nat → Int32) : k_vs (k_stc K y) = k_vs K := rfl
theorem k_sl_stc (K : KT) (y : Nat → Int32) : k_sl (k_stc K y) = k_sl K := rfl
theorem k_d_stc (K : KT) (y : Nat → Int32) : k_d (k_stc K y) = k_d K := rfl
theorem k_nu_stc (K : KT) (y : Nat → Int32) : k_nu (k_stc K y) = k_nu K := rfl
theorem k_dn_stc (K : KT) (y : Nat → Int32) : k_dn (k_stc K y) = k_dn K := rfl
theorem k_tl_stc (K : KT) (y : Nat → Int32) : k_tl (k_stc K y) = k_tl K := rfl
theorem k_tr_stc (K : KT) (y : Nat → Int32) : k_tr (k_stc K y) = k_tr K := rfl
theorem k_tc_stc (K : KT) (y : Nat → Int32) : k_tc (k_stc K y) = y := rfl
theorem k_tv_stc (K : KT) (y : Nat → Int32) : k_tv (k_stc K y) = k_tv K := rfl
theorem k_nl_stc (K : KT) (y : Nat → Int32) : k_nl (k_stc K y) = k_nl K := rfl
theorem k_it_stc (K : KT) (y : Nat → Int32) : k_it (k_stc K y) = k_it K := rfl
theorem k_gz_stc (K : KT) (y : Nat → Int32) : k_gz (k_stc K y) = k_gz K := rfl
theorem k_ar_stc (K : KT) (y : Nat → Int32) : k_ar (k_stc K y) = k_ar K := rfl
theorem k_ne_stc (K : KT) (y : Nat → Int32) : k_ne (k_stc K y) = k_ne K := rfl
theorem k_re_stc (K : KT) (y : Nat → Int32) : k_re (k_stc K y) = k_re K := rfl
theorem k_sj_stc (K : KT) (y : Nat → Int32) : k_sj (k_stc K y) = k_sj K := rfl
theorem k_st_stc (K : KT) (y : Nat → Int32) : k_st (k_stc K y) = k_st K := rfl
theorem k_nx_stc (K : KT) (y : Nat → Int32) : k_nx (k_stc K y) = k_nx K := rfl
theorem k_stc_stc (K : KT) (y z : Nat → Int32) : k_stc (k_stc K y) z = k_stc K z := rfl
theorem k_stc_self (K : KT) : k_stc K (k_tc K) = K := rfl
theorem k_rc_stv (K : KT) (y : Nat → Int64) : k_rc (k_stv K y) = k_rc K := rfl
theorem k_cc_stv (K : KT) (y : Nat → Int64) : k_cc (k_stv K y) = k_cc K := rfl
theorem k_kc_stv (K : KT) (y : Nat → Int64) : k_kc (k_stv K y) = k_kc K := rfl
theorem k_vs_stv (K : KT) (y : Nat → Int64) : k_vs (k_stv K y) = k_vs K := rfl
theorem k_sl_stv (K : KT) (y : Nat → Int64) : k_sl (k_stv K y) = k_sl K := rfl
theorem k_d_stv (K : KT) (y : Nat → Int64) : k_d (k_stv K y) = k_d K := rfl
theorem k_nu_stv (K : KT) (y : Nat → Int64) : k_nu (k_stv K y) = k_nu K := rfl
theorem k_dn_stv (K : KT) (y : Nat → Int64) : k_dn (k_stv K y) = k_dn K := rfl
theorem k_tl_stv (K : KT) (y : Nat → Int64) : k_tl (k_stv K y) = k_tl K := rfl
theorem k_tr_stv (K : KT) (y : Nat → Int64) : k_tr (k_stv K y) = k_tr K := rfl
theorem k_tc_stv (K : KT) (y : Nat → Int64) : k_tc (k_stv K y) = k_tc K := rfl
theorem k_tv_stv (K : KT) (y : Nat → Int64) : k_tv (k_stv K y) = y := rfl
theorem k_nl_stv (K : KT) (y : Nat → Int64) : k_nl (k_stv K y) = k_nl K := rfl
theorem k_it_stv (K : KT) (y : Nat → Int64) : k_it (k_stv K y) = k_it K := rfl
theorem k_gz_stv (K : KT) (y : Nat → Int64) : k_gz (k_stv K y) = k_gz K := rfl
theorem k_ar_stv (K : KT) (y : Nat → Int64) : k_ar (k_stv K y) = k_ar K := rfl
theorem k_ne_stv (K : KT) (y : Nat → Int64) : k_ne (k_stv K y) = k_ne K := rfl
theorem k_re_stv (K : KT) (y : Nat → Int64) : k_re (k_stv K y) = k_re K := rfl
theorem k_sj_stv (K : KT) (y : Nat → Int64) : k_sj (k_stv K y) = k_sj K := rfl
theorem k_st_stv (K : KT) (y : Nat → Int64) : k_st (k_stv K y) = k_st K := rfl
theorem k_nx_stv (K : KT) (y : Nat → Int64) : k_nx (k_stv K y) = k_nx K := rfl
theorem k_stv_stv (K : KT) (y z : Nat → Int64) : k_stv (k_stv K y) z = k_stv K z := rfl
theorem k_stv_self (K : KT) : k_stv K (k_tv K) = K := rfl
theorem k_rc_snl (K : KT) (y : Nat → Int32) : k_rc (k_snl K y) = k_rc K := rfl
theorem k_cc_snl (K : KT) (y : Nat → Int32) : k_cc (k_snl K y) = k_cc K := rfl
theorem k_kc_snl (K : KT) (y : Nat → Int32) : k_kc (k_snl K y) = k_kc K := rfl
theorem k_vs_snl (K : KT) (y : Nat → Int32) : k_vs (k_snl K y) = k_vs K := rfl
theorem k_sl_snl (K : KT) (y : Nat → Int32) : k_sl (k_snl K y) = k_sl K := rfl
theorem k_d_snl (K : KT) (y : Nat → Int32) : k_d (k_snl K y) = k_d K := rfl
theorem k_nu_snl (K : KT) (y : Nat → Int32) : k_nu (k_snl K y) = k_nu K := rfl
theorem k_dn_snl (K : KT) (y : Nat → Int32) : k_dn (k_snl K y) = k_dn K := rfl
theorem k_tl_snl (K : KT) (y : Nat → Int32) : k_tl (k_snl K y) = k_tl K := rfl
theorem k_tr_snl (K : KT) (y : Nat → Int32) : k_tr (k_snl K y) = k_tr K := rfl
theorem k_tc_snl (K : KT) (y : Nat → Int32) : k_tc (k_snl K y) = k_tc K := rfl
theorem k_tv_snl (K : KT) (y : Nat → Int32) : k_tv (k_snl K y) = k_tv K := rfl
theorem k_nl_snl (K : KT) (y : Nat → Int32) : k_nl (k_snl K y) = y := rfl
theorem k_it_snl (K : KT) (y : Nat → Int32) : k_it (k_snl K y) = k_it K := rfl
theorem k_gz_snl (K : KT) (y : Nat → Int32) : k_gz (k_snl K y) = k_gz K := rfl
theorem k_ar_snl (K : KT) (y : Nat → Int32) : k_ar (k_snl K y) = k_ar K := rfl
theorem k_ne_snl (K : KT) (y : Nat → Int32) : k_ne (k_snl K y) = k_ne K := rfl
theorem k_re_snl (K : KT) (y : Nat → Int32) : k_re (k_snl K y) = k_re K := rfl
theorem k_sj_snl (K : KT) (y : Nat → Int32) : k_sj (k_snl K y) = k_sj K := rfl
theorem k_st_snl (K : KT) (y : Nat → Int32) : k_st (k_snl K y) = k_st K := rfl
theorem k_nx_snl (K : KT) (y : Nat → Int32) : k_nx (k_snl K y) = k_nx K := rfl
theorem k_snl_snl (K : KT) (y z : Nat → Int32) : k_snl (k_snl K y) z = k_snl K z := rfl
theorem k_snl_self (K : KT) : k_snl K (k_nl K) = K := rfl
theorem k_rc_sit (K : KT) (y : Nat → Nat → Int32) : k_rc (k_sit K y) = k_rc K := rfl
theorem k_cc_sit (K : KT) (y : Nat → Nat → Int32) : k_cc (k_sit K y) = k_cc K := rfl
theorem k_kc_sit (K : KT) (y : Nat → Nat → Int32) : k_kc (k_sit K y) = k_kc K := rfl
theorem k_vs_sit (K : KT) (y : Nat → Nat → Int32) : k_vs (k_sit K y) = k_vs K := rfl
theorem k_sl_sit (K : KT) (y : Nat → Nat → Int32) : k_sl (k_sit K y) = k_sl K := rfl
theorem k_d_sit (K : KT) (y : Nat → Nat → Int32) : k_d (k_sit K y) = k_d K := rfl
theorem k_nu_sit (K : KT) (y : Nat → Nat → Int32) : k_nu (k_sit K y) = k_nu K := rfl
theorem k_dn_sit (K : KT) (y : Nat → Nat → Int32) : k_dn (k_sit K y) = k_dn K := rfl
theorem k_tl_sit (K : KT) (y : Nat → Nat → Int32) : k_tl (k_sit K y) = k_tl K := rfl
theorem k_tr_sit (K : KT) (y : Nat → Nat → Int32) : k_tr (k_sit K y) = k_tr K := rfl
theorem k_tc_sit (K : KT) (y : Nat → Nat → Int32) : k_tc (k_sit K y) = k_tc K := rfl
theorem k_tv_sit (K : KT) (y : Nat → Nat → Int32) : k_tv (k_sit K y) = k_tv K := rfl
theorem k_nl_sit (K : KT) (y : Nat → Nat → Int32) : k_nl (k_sit K y) = k_nl K := rfl
theorem k_it_sit (K : KT) (y : Nat → Nat → Int32) : k_it (k_sit K y) = y := rfl
theorem k_gz_sit (K : KT) (y : Nat → Nat → Int32) : k_gz (k_sit K y) = k_gz K := rfl
theorem k_ar_sit (K : KT) (y : Nat → Nat → Int32) : k_ar (k_sit K y) = k_ar K := rfl
theorem k_ne_sit (K : KT) (y : Nat → Nat → Int32) : k_ne (k_sit K y) = k_ne K := rfl
theorem k_re_sit (K : KT) (y : Nat → Nat → Int32) : k_re (k_sit K y) = k_re K := rfl
theorem k_sj_sit (K : KT) (y : Nat → Nat → Int32) : k_sj (k_sit K y) = k_sj K := rfl
theorem k_st_sit (K : KT) (y : Nat → Nat → Int32) : k_st (k_sit K y) = k_st K := rfl
theorem k_nx_sit (K : KT) (y : Nat → Nat → Int32) : k_nx (k_sit K y) = k_nx K := rfl
theorem k_sit_sit (K : KT) (y z : Nat → Nat → Int32) : k_sit (k_sit K y) z = k_sit K z := rfl
theorem k_sit_self (K : KT) : k_sit K (k_it K) = K := rfl
theorem k_rc_sgz (K : KT) (y : Int32) : k_rc (k_sgz K y) = k_rc K := rfl
theorem k_cc_sgz (K : KT) (y : Int32) : k_cc (k_sgz K y) = k_cc K := rfl
theorem k_kc_sgz (K : KT) (y : Int32) : k_kc (k_sgz K y) = k_kc K := rfl
theorem k_vs_sgz (K : KT) (y : Int32) : k_vs (k_sgz K y) = k_vs K := rfl
theorem k_sl_sgz (K : KT) (y : Int32) : k_sl (k_sgz K y) = k_sl K := rfl
theorem k_d_sgz (K : KT) (y : Int32) : k_d (k_sgz K y) = k_d K := rfl
theorem k_nu_sgz (K : KT) (y : Int32) : k_nu (k_sgz K y) = k_nu K := rfl
theorem k_dn_sgz (K : KT) (y : Int32) : k_dn (k_sgz K y) = k_dn K := rfl
theorem k_tl_sgz (K : KT) (y : Int32) : k_tl (k_sgz K y) = k_tl K := rfl
theorem k_tr_sgz (K : KT) (y : Int32) : k_tr (k_sgz K y) = k_tr K := rfl
theorem k_tc_sgz (K : KT) (y : Int32) : k_tc (k_sgz K y) = k_tc K := rfl
theorem k_tv_sgz (K : KT) (y : Int32) : k_tv (k_sgz K y) = k_tv K := rfl
theorem k_nl_sgz (K : KT) (y : Int32) : k_nl (k_sgz K y) = k_nl K := rfl
theorem k_it_sgz (K : KT) (y : Int32) : k_it (k_sgz K y) = k_it K := rfl
theorem k_gz_sgz (K : KT) (y : Int32) : k_gz (k_sgz K y) = y := rfl
theorem k_ar_sgz (K : KT) (y : Int32) : k_ar (k_sgz K y) = k_ar K := rfl
theorem k_ne_sgz (K : KT) (y : Int32) : k_ne (k_sgz K y) = k_ne K := rfl
theorem k_re_sgz (K : KT) (y : Int32) : k_re (k_sgz K y) = k_re K := rfl
theorem k_sj_sgz (K : KT) (y : Int32) : k_sj (k_sgz K y) = k_sj K := rfl
theorem k_st_sgz (K : KT) (y : Int32) : k_st (k_sgz K y) = k_st K := rfl
theorem k_nx_sgz (K : KT) (y : Int32) : k_nx (k_sgz K y) = k_nx K := rfl
theorem k_sgz_sgz (K : KT) (y z : Int32) : k_sgz (k_sgz K y) z = k_sgz K z := rfl
theorem k_sgz_self (K : KT) : k_sgz K (k_gz K) = K := rfl
theorem k_rc_sar (K : KT) (y : Nat → Int32) : k_rc (k_sar K y) = k_rc K := rfl
theorem k_cc_sar (K : KT) (y : Nat → Int32) : k_cc (k_sar K y) = k_cc K := rfl
theorem k_kc_sar (K : KT) (y : Nat → Int32) : k_kc (k_sar K y) = k_kc K := rfl
theorem k_vs_sar (K : KT) (y : Nat → Int32) : k_vs (k_sar K y) = k_vs K := rfl
theorem k_sl_sar (K : KT) (y : Nat → Int32) : k_sl (k_sar K y) = k_sl K := rfl
theorem k_d_sar (K : KT) (y : Nat → Int32) : k_d (k_sar K y) = k_d K := rfl
theorem k_nu_sar (K : KT) (y : Nat → Int32) : k_nu (k_sar K y) = k_nu K := rfl
theorem k_dn_sar (K : KT) (y : Nat → Int32) : k_dn (k_sar K y) = k_dn K := rfl
theorem k_tl_sar (K : KT) (y : Nat → Int32) : k_tl (k_sar K y) = k_tl K := rfl
theorem k_tr_sar (K : KT) (y : Nat → Int32) : k_tr (k_sar K y) = k_tr K := rfl
theorem k_tc_sar (K : KT) (y : Nat → Int32) : k_tc (k_sar K y) = k_tc K := rfl
theorem k_tv_sar (K : KT) (y : Nat → Int32) : k_tv (k_sar K y) = k_tv K := rfl
theorem k_nl_sar (K : KT) (y : Nat → Int32) : k_nl (k_sar K y) = k_nl K := rfl
theorem k_it_sar (K : KT) (y : Nat → Int32) : k_it (k_sar K y) = k_it K := rfl
theorem k_gz_sar (K : KT) (y : Nat → Int32) : k_gz (k_sar K y) = k_gz K := rfl
theorem k_ar_sar (K : KT) (y : Nat → Int32) : k_ar (k_sar K y) = y := rfl
theorem k_ne_sar (K : KT) (y : Nat → Int32) : k_ne (k_sar K y) = k_ne K := rfl
theorem k_re_sar (K : KT) (y : Nat → Int32) : k_re (k_sar K y) = k_re K := rfl
theorem k_sj_sar (K : KT) (y : Nat → Int32) : k_sj (k_sar K y) = k_sj K := rfl
theorem k_st_sar (K : KT) (y : Nat → Int32) : k_st (k_sar K y) = k_st K := rfl
theorem k_nx_sar (K : KT) (y : Nat → Int32) : k_nx (k_sar K y) = k_nx K := rfl
theorem k_sar_sar (K : KT) (y z : Nat → Int32) : k_sar (k_sar K y) z = k_sar K z := rfl
theorem k_sar_self (K : KT) : k_sar K (k_ar K) = K := rfl
theorem k_rc_sne (K : KT) (y : Nat → Int32) : k_rc (k_sne K y) = k_rc K := rfl
theorem k_cc_sne (K : KT) (y : Nat → Int32) : k_cc (k_sne K y) = k_cc K := rfl
theorem k_kc_sne (K : KT) (y : Nat → Int32) : k_kc (k_sne K y) = k_kc K := rfl
theorem k_vs_sne (K : KT) (y : Nat → Int32) : k_vs (k_sne K y) = k_vs K := rfl
theorem k_sl_sne (K : KT) (y : Nat → Int32) : k_sl (k_sne K y) = k_sl K := rfl
theorem k_d_sne (K : KT) (y : Nat → Int32) : k_d (k_sne K y) = k_d K := rfl
theorem k_nu_sne (K : KT) (y : Nat → Int32) : k_nu (k_sne K y) = k_nu K := rfl
theorem k_dn_sne (K : KT) (y : Nat → Int32) : k_dn (k_sne K y) = k_dn K := rfl
theorem k_tl_sne (K : KT) (y : Nat → Int32) : k_tl (k_sne K y) = k_tl K := rfl
theorem k_tr_sne (K : KT) (y : Nat → Int32) : k_tr (k_sne K y) = k_tr K := rfl
theorem k_tc_sne (K : KT) (y : Nat → Int32) : k_tc (k_sne K y) = k_tc K := rfl
theorem k_tv_sne (K : KT) (y : Nat → Int32) : k_tv (k_sne K y) = k_tv K := rfl
theorem k_nl_sne (K : KT) (y : Nat → Int32) : k_nl (k_sne K y) = k_nl K := rfl
theorem k_it_sne (K : KT) (y : Nat → Int32) : k_it (k_sne K y) = k_it K := rfl
theorem k_gz_sne (K : KT) (y : Nat → Int32) : k_gz (k_sne K y) = k_gz K := rfl
theorem k_ar_sne (K : KT) (y : Nat → Int32) : k_ar (k_sne K y) = k_ar K := rfl
theorem k_ne_sne (K : KT) (y : Nat → Int32) : k_ne (k_sne K y) = y := rfl
theorem k_re_sne (K : KT) (y : Nat → Int32) : k_re (k_sne K y) = k_re K := rfl
theorem k_sj_sne (K : KT) (y : Nat → Int32) : k_sj (k_sne K y) = k_sj K := rfl
theorem k_st_sne (K : KT) (y : Nat → Int32) : k_st (k_sne K y) = k_st K := rfl
theorem k_nx_sne (K : KT) (y : Nat → Int32) : k_nx (k_sne K y) = k_nx K := rfl
theorem k_sne_sne (K : KT) (y z : Nat → Int32) : k_sne (k_sne K y) z = k_sne K z := rfl
theorem k_sne_self (K : KT) : k_sne K (k_ne K) = K := rfl
theorem k_rc_sre (K : KT) (y : Nat → Int32) : k_rc (k_sre K y) = k_rc K := rfl
theorem k_cc_sre (K : KT) (y : Nat → Int32) : k_cc (k_sre K y) = k_cc K := rfl
theorem k_kc_sre (K : KT) (y : Nat → Int32) : k_kc (k_sre K y) = k_kc K := rfl
theorem k_vs_sre (K : KT) (y : Nat → Int32) : k_vs (k_sre K y) = k_vs K := rfl
theorem k_sl_sre (K : KT) (y : Nat → Int32) : k_sl (k_sre K y) = k_sl K := rfl
theorem k_d_sre (K : KT) (y : Nat → Int32) : k_d (k_sre K y) = k_d K := rfl
theorem k_nu_sre (K : KT) (y : Nat → Int32) : k_nu (k_sre K y) = k_nu K := rfl
theorem k_dn_sre (K : KT) (y : Nat → Int32) : k_dn (k_sre K y) = k_dn K := rfl
theorem k_tl_sre (K : KT) (y : Nat → Int32) : k_tl (k_sre K y) = k_tl K := rfl
theorem k_tr_sre (K : KT) (y : Nat → Int32) : k_tr (k_sre K y) = k_tr K := rfl
theorem k_tc_sre (K : KT) (y : Nat → Int32) : k_tc (k_sre K y) = k_tc K := rfl
theorem k_tv_sre (K : KT) (y : Nat → Int32) : k_tv (k_sre K y) = k_tv K := rfl
theorem k_nl_sre (K : KT) (y : Nat → Int32) : k_nl (k_sre K y) = k_nl K := rfl
theorem k_it_sre (K : KT) (y : Nat → Int32) : k_it (k_sre K y) = k_it K := rfl
theorem k_gz_sre (K : KT) (y : Nat → Int32) : k_gz (k_sre K y) = k_gz K := rfl
theorem k_ar_sre (K : KT) (y : Nat → Int32) : k_ar (k_sre K y) = k_ar K := rfl
theorem k_ne_sre (K : KT) (y : Nat → Int32) : k_ne (k_sre K y) = k_ne K := rfl
theorem k_re_sre (K : KT) (y : Nat → Int32) : k_re (k_sre K y) = y := rfl
theorem k_sj_sre (K : KT) (y : Nat → Int32) : k_sj (k_sre K y) = k_sj K := rfl
theorem k_st_sre (K : KT) (y : Nat → Int32) : k_st (k_sre K y) = k_st K := rfl
theorem k_nx_sre (K : KT) (y : Nat → Int32) : k_nx (k_sre K y) = k_nx K := rfl
theorem k_sre_sre (K : KT) (y z : Nat → Int32) : k_sre (k_sre K y) z = k_sre K z := rfl
theorem k_sre_self (K : KT) : k_sre K (k_re K) = K := rfl
theorem k_rc_ssj (K : KT) (y : Nat → Nat → Int64) : k_rc (k_ssj K y) = k_rc K := rfl
theorem k_cc_ssj (K : KT) (y : Nat → Nat → Int64) : k_cc (k_ssj K y) = k_cc K := rfl
theorem k_kc_ssj (K : KT) (y : Nat → Nat → Int64) : k_kc (k_ssj K y) = k_kc K := rfl
theorem k_vs_ssj (K : KT) (y : Nat → Nat → Int64) : k_vs (k_ssj K y) = k_vs K := rfl
theorem k_sl_ssj (K : KT) (y : Nat → Nat → Int64) : k_sl (k_ssj K y) = k_sl K := rfl
theorem k_d_ssj (K : KT) (y : Nat → Nat → Int64) : k_d (k_ssj K y) = k_d K := rfl
theorem k_nu_ssj (K : KT) (y : Nat → Nat → Int64) : k_nu (k_ssj K y) = k_nu K := rfl
theorem k_dn_ssj (K : KT) (y : Nat → Nat → Int64) : k_dn (k_ssj K y) = k_dn K := rfl
theorem k_tl_ssj (K : KT) (y : Nat → Nat → Int64) : k_tl (k_ssj K y) = k_tl K := rfl
theorem k_tr_ssj (K : KT) (y : Nat → Nat → Int64) : k_tr (k_ssj K y) = k_tr K := rfl
theorem k_tc_ssj (K : KT) (y : Nat → Nat → Int64) : k_tc (k_ssj K y) = k_tc K := rfl
theorem k_tv_ssj (K : KT) (y : Nat → Nat → Int64) : k_tv (k_ssj K y) = k_tv K := rfl
theorem k_nl_ssj (K : KT) (y : Nat → Nat → Int64) : k_nl (k_ssj K y) = k_nl K := rfl
theorem k_it_ssj (K : KT) (y : Nat → Nat → Int64) : k_it (k_ssj K y) = k_it K := rfl
theorem k_gz_ssj (K : KT) (y : Nat → Nat → Int64) : k_gz (k_ssj K y) = k_gz K := rfl
theorem k_ar_ssj (K : KT) (y : Nat → Nat → Int64) : k_ar (k_ssj K y) = k_ar K := rfl
theorem k_ne_ssj (K : KT) (y : Nat → Nat → Int64) : k_ne (k_ssj K y) = k_ne K := rfl
theorem k_re_ssj (K : KT) (y : Nat → Nat → Int64) : k_re (k_ssj K y) = k_re K := rfl
theorem k_sj_ssj (K : KT) (y : Nat → Nat → Int64) : k_sj (k_ssj K y) = y := rfl
theorem k_st_ssj (K : KT) (y : Nat → Nat → Int64) : k_st (k_ssj K y) = k_st K := rfl
theorem k_nx_ssj (K : KT) (y : Nat → Nat → Int64) : k_nx (k_ssj K y) = k_nx K := rfl
theorem k_ssj_ssj (K : KT) (y z : Nat → Nat → Int64) : k_ssj (k_ssj K y) z = k_ssj K z := rfl
theorem k_ssj_self (K : KT) : k_ssj K (k_sj K) = K := rfl
theorem k_rc_sst (K : KT) (y : Nat) : k_rc (k_sst K y) = k_rc K := rfl
theorem k_cc_sst (K : KT) (y : Nat) : k_cc (k_sst K y) = k_cc K := rfl
theorem k_kc_sst (K : KT) (y : Nat) : k_kc (k_sst K y) = k_kc K := rfl
theorem k_vs_sst (K : KT) (y : Nat) : k_vs (k_sst K y) = k_vs K := rfl
theorem k_sl_sst (K : KT) (y : Nat) : k_sl (k_sst K y) = k_sl K := rfl
theorem k_d_sst (K : KT) (y : Nat) : k_d (k_sst K y) = k_d K := rfl
theorem k_nu_sst (K : KT) (y : Nat) : k_nu (k_sst K y) = k_nu K := rfl
theorem k_dn_sst (K : KT) (y : Nat) : k_dn (k_sst K y) = k_dn K := rfl
theorem k_tl_sst (K : KT) (y : Nat) : k_tl (k_sst K y) = k_tl K := rfl
theorem k_tr_sst (K : KT) (y : Nat) : k_tr (k_sst K y) = k_tr K := rfl
theorem k_tc_sst (K : KT) (y : Nat) : k_tc (k_sst K y) = k_tc K := rfl
theorem k_tv_sst (K : KT) (y : Nat) : k_tv (k_sst K y) = k_tv K := rfl
theorem k_nl_sst (K : KT) (y : Nat) : k_nl (k_sst K y) = k_nl K := rfl
theorem k_it_sst (K : KT) (y : Nat) : k_it (k_sst K y) = k_it K := rfl
theorem k_gz_sst (K : KT) (y : Nat) : k_gz (k_sst K y) = k_gz K := rfl
theorem k_ar_sst (K : KT) (y : Nat) : k_ar (k_sst K y) = k_ar K := rfl
theorem k_ne_sst (K : KT) (y : Nat) : k_ne (k_sst K y) = k_ne K := rfl
theorem k_re_sst (K : KT) (y : Nat) : k_re (k_sst K y) = k_re K := rfl
theorem k_sj_sst (K : KT) (y : Nat) : k_sj (k_sst K y) = k_sj K := rfl
theorem k_st_sst (K : KT) (y : Nat) : k_st (k_sst K y) = y := rfl
theorem k_nx_sst (K : KT) (y : Nat) : k_nx (k_sst K y) = k_nx K := rfl
theorem k_sst_sst (K : KT) (y z : Nat) : k_sst (k_sst K y) z = k_sst K z := rfl
theorem k_sst_self (K : KT) : k_sst K (k_st K) = K := rfl
theorem k_rc_snx (K : KT) (y : Nat) : k_rc (k_snx K y) = k_rc K := rfl
theorem k_cc_snx (K : KT) (y : Nat) : k_cc (k_snx K y) = k_cc K := rfl
theorem k_kc_snx (K : KT) (y : Nat) : k_kc (k_snx K y) = k_kc K := rfl
theorem k_vs_snx (K : KT) (y : Nat) : k_vs (k_snx K y) = k_vs K := rfl
theorem k_sl_snx (K : KT) (y : Nat) : k_sl (k_snx K y) = k_sl K := rfl
theorem k_d_snx (K : KT) (y : Nat) : k_d (k_snx K y) = k_d K := rfl
theorem k_nu_snx (K : KT) (y : Nat) : k_nu (k_snx K y) = k_nu K := rfl
theorem k_dn_snx (K : KT) (y : Nat) : k_dn (k_snx K y) = k_dn K := rfl
theorem k_tl_snx (K : KT) (y : Nat) : k_tl (k_snx K y) = k_tl K := rfl
theorem k_tr_snx (K : KT) (y : Nat) : k_tr (k_snx K y) = k_tr K := rfl
theorem k_tc_snx (K : KT) (y : Nat) : k_tc (k_snx K y) = k_tc K := rfl
theorem k_tv_snx (K : KT) (y : Nat) : k_tv (k_snx K y) = k_tv K := rfl
theorem k_nl_snx (K : KT) (y : Nat) : k_nl (k_snx K y) = k_nl K := rfl
theorem k_it_snx (K : KT) (y : Nat) : k_it (k_snx K y) = k_it K := rfl
theorem k_gz_snx (K : KT) (y : Nat) : k_gz (k_snx K y) = k_gz K := rfl
theorem k_ar_snx (K : KT) (y : Nat) : k_ar (k_snx K y) = k_ar K := rfl
theorem k_ne_snx (K : KT) (y : Nat) : k_ne (k_snx K y) = k_ne K := rfl
theorem k_re_snx (K : KT) (y : Nat) : k_re (k_snx K y) = k_re K := rfl
theorem k_sj_snx (K : KT) (y : Nat) : k_sj (k_snx K y) = k_sj K := rfl
theorem k_st_snx (K : KT) (y : Nat) : k_st (k_snx K y) = k_st K := rfl
theorem k_nx_snx (K : KT) (y : Nat) : k_nx (k_snx K y) = y := rfl
theorem k_snx_snx (K : KT) (y z : Nat) : k_snx (k_snx K y) z = k_snx K z := rfl
theorem k_snx_self (K : KT) : k_snx K (k_nx K) = K := rfl
def m_th (M : MT) : Nat → Int32 := M.1
def m_sth (M : MT) (y : Nat → Int32) : MT := (y, M.2.1, M.2.2.1, M.2.2.2.1, M.2.2.2.2.1, M.2.2.2.2.2.1, M.2.2.2.2.2.2.1, M.2.2.2.2.2.2.2.1, M.2.2.2.2.2.2.2.2.1, M.2.2.2.2.2.2.2.2.2.1, M.2.2.2.2.2.2.2.2.2.2.1, M.2.2.2.2.2.2.2.2.2.2.2.1, M.2.2.2.2.2.2.2.2.2.2.2.2.1, M.2.2.2.2.2.2.2.2.2.2.2.2.2)
def m_hi (M : MT) : Nat → Int32 := M.2.1
def m_shi (M : MT) (y : Nat → Int32) : MT := (M.1, y, M.2.2.1, M.2.2.2.1, M.2.2.2.2.1, M.2.2.2.2.2.1, M.2.2.2.2.2.2.1, M.2.2.2.2.2.2.2.1, M.2.2.2.2.2.2.2.2.1, M.2.2.2.2.2.2.2.2.2.1, M.2.2.2.2.2.2.2.2.2.2.1, M.2.2.2.2.2.2.2.2.2.2.2.1, M.2.2.2.2.2.2.2.2.2.2.2.2.1, M.2.2.2.2.2.2.2.2.2.2.2.2.2)
def m_wi (M : MT) : Nat → Int32 := M.2.2.1
def m_swi (M : MT) (y : Nat → Int32) : MT := (M.1, M.2.1, y, M.2.2.2.1, M.2.2.2.2.1, M.2.2.2.2.2.1, M.2.2.2.2.2.2.1, M.2.2.2.2.2.2.2.1, M.2.2.2.2.2.2.2.2.1, M.2.2.2.2.2.2.2.2.2.1, M.2.2.2.2.2.2.2.2.2.2.1, M.2.2.2.2.2.2.2.2.2.2.2.1, M.2.2.2.2.2.2.2.2.2.2.2.2.1, M.2.2.2.2.2.2.2.2.2.2.2.2.2)
def m_kp (M : MT) : Nat → Int32 := M.2.2.2.1
def m_skp (M : MT) (y : Nat → Int32) : MT := (M.1, M.2.1, M.2.2.1, y, M.2.2.2.2.1, M.2.2.2.2.2.1, M.2.2.2.2.2.2.1, M.2.2.2.2.2.2.2.1, M.2.2.2.2.2.2.2.2.1, M.2.2.2.2.2.2.2.2.2.1, M.2.2.2.2.2.2.2.2.2.2.1, M.2.2.2.2.2.2.2.2.2.2.2.1, M.2.2.2.2.2.2.2.2.2.2.2.2.1, M.2.2.2.2.2.2.2.2.2.2.2.2.2)
def m_va (M : MT) : Nat → Int64 := M.2.2.2.2.1
def m_sva (M : MT) (y : Nat → Int64) : MT := (M.1, M.2.1, M.2.2.1, M.2.2.2.1, y, M.2.2.2.2.2.1, M.2.2.2.2.2.2.1, M.2.2.2.2.2.2.2.1, M.2.2.2.2.2.2.2.2.1, M.2.2.2.2.2.2.2.2.2.1, M.2.2.2.2.2.2.2.2.2.2.1, M.2.2.2.2.2.2.2.2.2.2.2.1, M.2.2.2.2.2.2.2.2.2.2.2.2.1, M.2.2.2.2.2.2.2.2.2.2.2.2.2)
def m_mt (M : MT) : Int32 := M.2.2.2.2.2.1
def m_smt (M : MT) (y : Int32) : MT := (M.1, M.2.1, M.2.2.1, M.2.2.2.1, M.2.2.2.2.1, y, M.2.2.2.2.2.2.1, M.2.2.2.2.2.2.2.1, M.2.2.2.2.2.2.2.2.1, M.2.2.2.2.2.2.2.2.2.1, M.2.2.2.2.2.2.2.2.2.2.1, M.2.2.2.2.2.2.2.2.2.2.2.1, M.2.2.2.2.2.2.2.2.2.2.2.2.1, M.2.2.2.2.2.2.2.2.2.2.2.2.2)
def m_ta (M : MT) : Nat → Int32 := M.2.2.2.2.2.2.1
def m_sta (M : MT) (y : Nat → Int32) : MT := (M.1, M.2.1, M.2.2.1, M.2.2.2.1, M.2.2.2.2.1, M.2.2.2.2.2.1, y, M.2.2.2.2.2.2.2.1, M.2.2.2.2.2.2.2.2.1, M.2.2.2.2.2.2.2.2.2.1, M.2.2.2.2.2.2.2.2.2.2.1, M.2.2.2.2.2.2.2.2.2.2.2.1, M.2.2.2.2.2.2.2.2.2.2.2.2.1, M.2.2.2.2.2.2.2.2.2.2.2.2.2)
def m_tw (M : MT) : Nat → Int64 := M.2.2.2.2.2.2.2.1
def m_stw (M : MT) (y : Nat → Int64) : MT := (M.1, M.2.1, M.2.2.1, M.2.2.2.1, M.2.2.2.2.1, M.2.2.2.2.2.1, M.2.2.2.2.2.2.1, y, M.2.2.2.2.2.2.2.2.1, M.2.2.2.2.2.2.2.2.2.1, M.2.2.2.2.2.2.2.2.2.2.1, M.2.2.2.2.2.2.2.2.2.2.2.1, M.2.2.2.2.2.2.2.2.2.2.2.2.1, M.2.2.2.2.2.2.2.2.2.2.2.2.2)
def m_ml (M : MT) : Int32 := M.2.2.2.2.2.2.2.2.1
def m_sml (M : MT) (y : Int32) : MT := (M.1, M.2.1, M.2.2.1, M.2.2.2.1, M.2.2.2.2.1, M.2.2.2.2.2.1, M.2.2.2.2.2.2.1, M.2.2.2.2.2.2.2.1, y, M.2.2.2.2.2.2.2.2.2.1, M.2.2.2.2.2.2.2.2.2.2.1, M.2.2.2.2.2.2.2.2.2.2.2.1, M.2.2.2.2.2.2.2.2.2.2.2.2.1, M.2.2.2.2.2.2.2.2.2.2.2.2.2)
def m_lo (M : MT) : Nat → Int32 := M.2.2.2.2.2.2.2.2.2.1
def m_slo (M : MT) (y : Nat → Int32) : MT := (M.1, M.2.1, M.2.2.1, M.2.2.2.1, M.2.2.2.2.1, M.2.2.2.2.2.1, M.2.2.2.2.2.2.1, M.2.2.2.2.2.2.2.1, M.2.2.2.2.2.2.2.2.1, y, M.2.2.2.2.2.2.2.2.2.2.1, M.2.2.2.2.2.2.2.2.2.2.2.1, M.2.2.2.2.2.2.2.2.2.2.2.2.1, M.2.2.2.2.2.2.2.2.2.2.2.2.2)
def m_ce (M : MT) : Nat → Int64 := M.2.2.2.2.2.2.2.2.2.2.1
def m_sce (M : MT) (y : Nat → Int64) : MT := (M.1, M.2.1, M.2.2.1, M.2.2.2.1, M.2.2.2.2.1, M.2.2.2.2.2.1, M.2.2.2.2.2.2.1, M.2.2.2.2.2.2.2.1, M.2.2.2.2.2.2.2.2.1, M.2.2.2.2.2.2.2.2.2.1, y, M.2.2.2.2.2.2.2.2.2.2.2.1, M.2.2.2.2.2.2.2.2.2.2.2.2.1, M.2.2.2.2.2.2.2.2.2.2.2.2.2)
def m_ld (M : MT) : Int32 := M.2.2.2.2.2.2.2.2.2.2.2.1
def m_sld (M : MT) (y : Int32) : MT := (M.1, M.2.1, M.2.2.1, M.2.2.2.1, M.2.2.2.2.1, M.2.2.2.2.2.1, M.2.2.2.2.2.2.1, M.2.2.2.2.2.2.2.1, M.2.2.2.2.2.2.2.2.1, M.2.2.2.2.2.2.2.2.2.1, M.2.2.2.2.2.2.2.2.2.2.1, y, M.2.2.2.2.2.2.2.2.2.2.2.2.1, M.2.2.2.2.2.2.2.2.2.2.2.2.2)
def m_he (M : MT) : Nat → Int64 := M.2.2.2.2.2.2.2.2.2.2.2.2.1
def m_she (M : MT) (y : Nat → Int64) : MT := (M.1, M.2.1, M.2.2.1, M.2.2.2.1, M.2.2.2.2.1, M.2.2.2.2.2.1, M.2.2.2.2.2.2.1, M.2.2.2.2.2.2.2.1, M.2.2.2.2.2.2.2.2.1, M.2.2.2.2.2.2.2.2.2.1, M.2.2.2.2.2.2.2.2.2.2.1, M.2.2.2.2.2.2.2.2.2.2.2.1, y, M.2.2.2.2.2.2.2.2.2.2.2.2.2)
def m_ny (M : MT) : Nat → Int64 := M.2.2.2.2.2.2.2.2.2.2.2.2.2
def m_sny (M : MT) (y : Nat → Int64) : MT := (M.1, M.2.1, M.2.2.1, M.2.2.2.1, M.2.2.2.2.1, M.2.2.2.2.2.1, M.2.2.2.2.2.2.1, M.2.2.2.2.2.2.2.1, M.2.2.2.2.2.2.2.2.1, M.2.2.2.2.2.2.2.2.2.1, M.2.2.2.2.2.2.2.2.2.2.1, M.2.2.2.2.2.2.2.2.2.2.2.1, M.2.2.2.2.2.2.2.2.2.2.2.2.1, y)
theorem m_th_sth (M : MT) (y : Nat → Int32) : m_th (m_sth M y) = y := rfl
theorem m_hi_sth (M : MT) (y : Nat → Int32) : m_hi (m_sth M y) = m_hi M := rfl
theorem m_wi_sth (M : MT) (y : Nat → Int32) : m_wi (m_sth M y) = m_wi M := rfl
theorem m_kp_sth (M : MT) (y : Nat → Int32) : m_kp (m_sth M y) = m_kp M := rfl
theorem m_va_sth (M : MT) (y : Nat → Int32) : m_va (m_sth M y) = m_va M := rfl
theorem m_mt_sth (M : MT) (y : Nat → Int32) : m_mt (m_sth M y) = m_mt M := rfl
theorem m_ta_sth (M : MT) (y : Nat → Int32) : m_ta (m_sth M y) = m_ta M := rfl
theorem m_tw_sth (M : MT) (y : Nat → Int32) : m_tw (m_sth M y) = m_tw M := rfl
theorem m_ml_sth (M : MT) (y : Nat → Int32) : m_ml (m_sth M y) = m_ml M := rfl
theorem m_lo_sth (M : MT) (y : Nat → Int32) : m_lo (m_sth M y) = m_lo M := rfl
theorem m_ce_sth (M : MT) (y : Nat → Int32) : m_ce (m_sth M y) = m_ce M := rfl
theorem m_ld_sth (M : MT) (y : Nat → Int32) : m_ld (m_sth M y) = m_ld M := rfl
theorem m_he_sth (M : MT) (y : Nat → Int32) : m_he (m_sth M y) = m_he M := rfl
theorem m_ny_sth (M : MT) (y : Nat → Int32) : m_ny (m_sth M y) = m_ny M := rfl
theorem m_sth_sth (M : MT) (y z : Nat → Int32) : m_sth (m_sth M y) z = m_sth M z := rfl
theorem m_sth_self (M : MT) : m_sth M (m_th M) = M := rfl
theorem m_th_shi (M : MT) (y : Nat → Int32) : m_th (m_shi M y) = m_th M := rfl
theorem m_hi_shi (M : MT) (y : Nat → Int32) : m_hi (m_shi M y) = y := rfl
theorem m_wi_shi (M : MT) (y : Nat → Int32) : m_wi (m_shi M y) = m_wi M := rfl
theorem m_kp_shi (M : MT) (y : Nat → Int32) : m_kp (m_shi M y) = m_kp M := rfl
theorem m_va_shi (M : MT) (y : Nat → Int32) : m_va (m_shi M y) = m_va M := rfl
theorem m_mt_shi (M : MT) (y : Nat → Int32) : m_mt (m_shi M y) = m_mt M := rfl
theorem m_ta_shi (M : MT) (y : Nat → Int32) : m_ta (m_shi M y) = m_ta M := rfl
theorem m_tw_shi (M : MT) (y : Nat → Int32) : m_tw (m_shi M y) = m_tw M := rfl
theorem m_ml_shi (M : MT) (y : Nat → Int32) : m_ml (m_shi M y) = m_ml M := rfl
theorem m_lo_shi (M : MT) (y : Nat → Int32) : m_lo (m_shi M y) = m_lo M := rfl
theorem m_ce_shi (M : MT) (y : Nat → Int32) : m_ce (m_shi M y) = m_ce M := rfl
theorem m_ld_shi (M : MT) (y : Nat → Int32) : m_ld (m_shi M y) = m_ld M := rfl
theorem m_he_shi (M : MT) (y : Nat → Int32) : m_he (m_shi M y) = m_he M := rfl
theorem m_ny_shi (M : MT) (y : Nat → Int32) : m_ny (m_shi M y) = m_ny M := rfl
theorem m_shi_shi (M : MT) (y z : Nat → Int32) : m_shi (m_shi M y) z = m_shi M z := rfl
theorem m_shi_self (M : MT) : m_shi M (m_hi M) = M := rfl
theorem m_th_swi (M : MT) (y : Nat → Int32) : m_th (m_swi M y) = m_th M := rfl
theorem m_hi_swi (M : MT) (y : Nat → Int32) : m_hi (m_swi M y) = m_hi M := rfl
theorem m_wi_swi (M : MT) (y : Nat → Int32) : m_wi (m_swi M y) = y := rfl
theorem m_kp_swi (M : MT) (y : Nat → Int32) : m_kp (m_swi M y) = m_kp M := rfl
theorem m_va_swi (M : MT) (y : Nat → Int32) : m_va (m_swi M y) = m_va M := rfl
theorem m_mt_swi (M : MT) (y : Nat → Int32) : m_mt (m_swi M y) = m_mt M := rfl
theorem m_ta_swi (M : MT) (y : Nat → Int32) : m_ta (m_swi M y) = m_ta M := rfl
theorem m_tw_swi (M : MT) (y : Nat → Int32) : m_tw (m_swi M y) = m_tw M := rfl
theorem m_ml_swi (M : MT) (y : Nat → Int32) : m_ml (m_swi M y) = m_ml M := rfl
theorem m_lo_swi (M : MT) (y : Nat → Int32) : m_lo (m_swi M y) = m_lo M := rfl
theorem m_ce_swi (M : MT) (y : Nat → Int32) : m_ce (m_swi M y) = m_ce M := rfl
theorem m_ld_swi (M : MT) (y : Nat → Int32) : m_ld (m_swi M y) = m_ld M := rfl
theorem m_he_swi (M : MT) (y : Nat → Int32) : m_he (m_swi M y) = m_he M := rfl
theorem m_ny_swi (M : MT) (y : Nat → Int32) : m_ny (m_swi M y) = m_ny M := rfl
theorem m_swi_swi (M : MT) (y z : Nat → Int32) : m_swi (m_swi M y) z = m_swi M z := rfl
theorem m_swi_self (M : MT) : m_swi M (m_wi M) = M := rfl
theorem m_th_skp (M : MT) (y : Nat → Int32) : m_th (m_skp M y) = m_th M := rfl
theorem m_hi_skp (M : MT) (y : Nat → Int32) : m_hi (m_skp M y) = m_hi M := rfl
theorem m_wi_skp (M : MT) (y : Nat → Int32) : m_wi (m_skp M y) = m_wi M := rfl
theorem m_kp_skp (M : MT) (y : Nat → Int32) : m_kp (m_skp M y) = y := rfl
theorem m_va_skp (M : MT) (y : Nat → Int32) : m_va (m_skp M y) = m_va M := rfl
theorem m_mt_skp (M : MT) (y : Nat → Int32) : m_mt (m_skp M y) = m_mt M := rfl
theorem m_ta_skp (M : MT) (y : Nat → Int32) : m_ta (m_skp M y) = m_ta M := rfl
theorem m_tw_skp (M : MT) (y : Nat → Int32) : m_tw (m_skp M y) = m_tw M := rfl
theorem m_ml_skp (M : MT) (y : Nat → Int32) : m_ml (m_skp M y) = m_ml M := rfl
theorem m_lo_skp (M : MT) (y : Nat → Int32) : m_lo (m_skp M y) = m_lo M := rfl
theorem m_ce_skp (M : MT) (y : Nat → Int32) : m_ce (m_skp M y) = m_ce M := rfl
theorem m_ld_skp (M : MT) (y : Nat → Int32) : m_ld (m_skp M y) = m_ld M := rfl
theorem m_he_skp (M : MT) (y : Nat → Int32) : m_he (m_skp M y) = m_he M := rfl
theorem m_ny_skp (M : MT) (y : Nat → Int32) : m_ny (m_skp M y) = m_ny M := rfl
theorem m_skp_skp (M : MT) (y z : Nat → Int32) : m_skp (m_skp M y) z = m_skp M z := rfl
theorem m_skp_self (M : MT) : m_skp M (m_kp M) = M := rfl
theorem m_th_sva (M : MT) (y : Nat → Int64) : m_th (m_sva M y) = m_th M := rfl
theorem m_hi_sva (M : MT) (y : Nat → Int64) : m_hi (m_sva M y) = m_hi M := rfl
theorem m_wi_sva (M : MT) (y : Nat → Int64) : m_wi (m_sva M y) = m_wi M := rfl
theorem m_kp_sva (M : MT) (y : Nat → Int64) : m_kp (m_sva M y) = m_kp M := rfl
theorem m_va_sva (M : MT) (y : Nat → Int64) : m_va (m_sva M y) = y := rfl
theorem m_mt_sva (M : MT) (y : Nat → Int64) : m_mt (m_sva M y) = m_mt M := rfl
theorem m_ta_sva (M : MT) (y : Nat → Int64) : m_ta (m_sva M y) = m_ta M := rfl
theorem m_tw_sva (M : MT) (y : Nat → Int64) : m_tw (m_sva M y) = m_tw M := rfl
theorem m_ml_sva (M : MT) (y : Nat → Int64) : m_ml (m_sva M y) = m_ml M := rfl
theorem m_lo_sva (M : MT) (y : Nat → Int64) : m_lo (m_sva M y) = m_lo M := rfl
theorem m_ce_sva (M : MT) (y : Nat → Int64) : m_ce (m_sva M y) = m_ce M := rfl
theorem m_ld_sva (M : MT) (y : Nat → Int64) : m_ld (m_sva M y) = m_ld M := rfl
theorem m_he_sva (M : MT) (y : Nat → Int64) : m_he (m_sva M y) = m_he M := rfl
theorem m_ny_sva (M : MT) (y : Nat → Int64) : m_ny (m_sva M y) = m_ny M := rfl
theorem m_sva_sva (M : MT) (y z : Nat → Int64) : m_sva (m_sva M y) z = m_sva M z := rfl
theorem m_sva_self (M : MT) : m_sva M (m_va M) = M := rfl
theorem m_th_smt (M : MT) (y : Int32) : m_th (m_smt M y) = m_th M := rfl
theorem m_hi_smt (M : MT) (y : Int32) : m_hi (m_smt M y) = m_hi M := rfl
theorem m_wi_smt (M : MT) (y : Int32) : m_wi (m_smt M y) = m_wi M := rfl
theorem m_kp_smt (M : MT) (y : Int32) : m_kp (m_smt M y) = m_kp M := rfl
theorem m_va_smt (M : MT) (y : Int32) : m_va (m_smt M y) = m_va M := rfl
theorem m_mt_smt (M : MT) (y : Int32) : m_mt (m_smt M y) = y := rfl
theorem m_ta_smt (M : MT) (y : Int32) : m_ta (m_smt M y) = m_ta M := rfl
theorem m_tw_smt (M : MT) (y : Int32) : m_tw (m_smt M y) = m_tw M := rfl
theorem m_ml_smt (M : MT) (y : Int32) : m_ml (m_smt M y) = m_ml M := rfl
theorem m_lo_smt (M : MT) (y : Int32) : m_lo (m_smt M y) = m_lo M := rfl
theorem m_ce_smt (M : MT) (y : Int32) : m_ce (m_smt M y) = m_ce M := rfl
theorem m_ld_smt (M : MT) (y : Int32) : m_ld (m_smt M y) = m_ld M := rfl
theorem m_he_smt (M : MT) (y : Int32) : m_he (m_smt M y) = m_he M := rfl
theorem m_ny_smt (M : MT) (y : Int32) : m_ny (m_smt M y) = m_ny M := rfl
theorem m_smt_smt (M : MT) (y z : Int32) : m_smt (m_smt M y) z = m_smt M z := rfl
theorem m_smt_self (M : MT) : m_smt M (m_mt M) = M := rfl
theorem m_th_sta (M : MT) (y : Nat → Int32) : m_th (m_sta M y) = m_th M := rfl
theorem m_hi_sta (M : MT) (y : Nat → Int32) : m_hi (m_sta M y) = m_hi M := rfl
theorem m_wi_sta (M : MT) (y : Nat → Int32) : m_wi (m_sta M y) = m_wi M := rfl
theorem m_kp_sta (M : MT) (y : Nat → Int32) : m_kp (m_sta M y) = m_kp M := rfl
theorem m_va_sta (M : MT) (y : Nat → Int32) : m_va (m_sta M y) = m_va M := rfl
theorem m_mt_sta (M : MT) (y : Nat → Int32) : m_mt (m_sta M y) = m_mt M := rfl
theorem m_ta_sta (M : MT) (y : Nat → Int32) : m_ta (m_sta M y) = y := rfl
theorem m_tw_sta (M : MT) (y : Nat → Int32) : m_tw (m_sta M y) = m_tw M := rfl
theorem m_ml_sta (M : MT) (y : Nat → Int32) : m_ml (m_sta M y) = m_ml M := rfl
theorem m_lo_sta (M : MT) (y : Nat → Int32) : m_lo (m_sta M y) = m_lo M := rfl
theorem m_ce_sta (M : MT) (y : Nat → Int32) : m_ce (m_sta M y) = m_ce M := rfl
theorem m_ld_sta (M : MT) (y : Nat → Int32) : m_ld (m_sta M y) = m_ld M := rfl
theorem m_he_sta (M : MT) (y : Nat → Int32) : m_he (m_sta M y) = m_he M := rfl
theorem m_ny_sta (M : MT) (y : Nat → Int32) : m_ny (m_sta M y) = m_ny M := rfl
theorem m_sta_sta (M : MT) (y z : Nat → Int32) : m_sta (m_sta M y) z = m_sta M z := rfl
theorem m_sta_self (M : MT) : m_sta M (m_ta M) = M := rfl
theorem m_th_stw (M : MT) (y : Nat → Int64) : m_th (m_stw M y) = m_th M := rfl
theorem m_hi_stw (M : MT) (y : Nat → Int64) : m_hi (m_stw M y) = m_hi M := rfl
theorem m_wi_stw (M : MT) (y : Nat → Int64) : m_wi (m_stw M y) = m_wi M := rfl
theorem m_kp_stw (M : MT) (y : Nat → Int64) : m_kp (m_stw M y) = m_kp M := rfl
theorem m_va_stw (M : MT) (y : Nat → Int64) : m_va (m_stw M y) = m_va M := rfl
theorem m_mt_stw (M : MT) (y : Nat → Int64) : m_mt (m_stw M y) = m_mt M := rfl
theorem m_ta_stw (M : MT) (y : Nat → Int64) : m_ta (m_stw M y) = m_ta M := rfl
theorem m_tw_stw (M : MT) (y : Nat → Int64) : m_tw (m_stw M y) = y := rfl
theorem m_ml_stw (M : MT) (y : Nat → Int64) : m_ml (m_stw M y) = m_ml M := rfl
theorem m_lo_stw (M : MT) (y : Nat → Int64) : m_lo (m_stw M y) = m_lo M := rfl
theorem m_ce_stw (M : MT) (y : Nat → Int64) : m_ce (m_stw M y) = m_ce M := rfl
theorem m_ld_stw (M : MT) (y : Nat → Int64) : m_ld (m_stw M y) = m_ld M := rfl
theorem m_he_stw (M : MT) (y : Nat → Int64) : m_he (m_stw M y) = m_he M := rfl
theorem m_ny_stw (M : MT) (y : Nat → Int64) : m_ny (m_stw M y) = m_ny M := rfl
theorem m_stw_stw (M : MT) (y z : Nat → Int64) : m_stw (m_stw M y) z = m_stw M z := rfl
theorem m_stw_self (M : MT) : m_stw M (m_tw M) = M := rfl
theorem m_th_sml (M : MT) (y : Int32) : m_th (m_sml M y) = m_th M := rfl
theorem m_hi_sml (M : MT) (y : Int32) : m_hi (m_sml M y) = m_hi M := rfl
theorem m_wi_sml (M : MT) (y : Int32) : m_wi (m_sml M y) = m_wi M := rfl
theorem m_kp_sml (M : MT) (y : Int32) : m_kp (m_sml M y) = m_kp M := rfl
theorem m_va_sml (M : MT) (y : Int32) : m_va (m_sml M y) = m_va M := rfl
theorem m_mt_sml (M : MT) (y : Int32) : m_mt (m_sml M y) = m_mt M := rfl
theorem m_ta_sml (M : MT) (y : Int32) : m_ta (m_sml M y) = m_ta M := rfl
theorem m_tw_sml (M : MT) (y : Int32) : m_tw (m_sml M y) = m_tw M := rfl
theorem m_ml_sml (M : MT) (y : Int32) : m_ml (m_sml M y) = y := rfl
theorem m_lo_sml (M : MT) (y : Int32) : m_lo (m_sml M y) = m_lo M := rfl
theorem m_ce_sml (M : MT) (y : Int32) : m_ce (m_sml M y) = m_ce M := rfl
theorem m_ld_sml (M : MT) (y : Int32) : m_ld (m_sml M y) = m_ld M := rfl
theorem m_he_sml (M : MT) (y : Int32) : m_he (m_sml M y) = m_he M := rfl
theorem m_ny_sml (M : MT) (y : Int32) : m_ny (m_sml M y) = m_ny M := rfl
theorem m_sml_sml (M : MT) (y z : Int32) : m_sml (m_sml M y) z = m_sml M z := rfl
theorem m_sml_self (M : MT) : m_sml M (m_ml M) = M := rfl
theorem m_th_slo (M : MT) (y : Nat → Int32) : m_th (m_slo M y) = m_th M := rfl
theorem m_hi_slo (M : MT) (y : Nat → Int32) : m_hi (m_slo M y) = m_hi M := rfl
theorem m_wi_slo (M : MT) (y : Nat → Int32) : m_wi (m_slo M y) = m_wi M := rfl
theorem m_kp_slo (M : MT) (y : Nat → Int32) : m_kp (m_slo M y) = m_kp M := rfl
theorem m_va_slo (M : MT) (y : Nat → Int32) : m_va (m_slo M y) = m_va M := rfl
theorem m_mt_slo (M : MT) (y : Nat → Int32) : m_mt (m_slo M y) = m_mt M := rfl
theorem m_ta_slo (M : MT) (y : Nat → Int32) : m_ta (m_slo M y) = m_ta M := rfl
theorem m_tw_slo (M : MT) (y : Nat → Int32) : m_tw (m_slo M y) = m_tw M := rfl
theorem m_ml_slo (M : MT) (y : Nat → Int32) : m_ml (m_slo M y) = m_ml M := rfl
theorem m_lo_slo (M : MT) (y : Nat → Int32) : m_lo (m_slo M y) = y := rfl
theorem m_ce_slo (M : MT) (y : Nat → Int32) : m_ce (m_slo M y) = m_ce M := rfl
theorem m_ld_slo (M : MT) (y : Nat → Int32) : m_ld (m_slo M y) = m_ld M := rfl
theorem m_he_slo (M : MT) (y : Nat → Int32) : m_he (m_slo M y) = m_he M := rfl
theorem m_ny_slo (M : MT) (y : Nat → Int32) : m_ny (m_slo M y) = m_ny M := rfl
theorem m_slo_slo (M : MT) (y z : Nat → Int32) : m_slo (m_slo M y) z = m_slo M z := rfl
theorem m_slo_self (M : MT) : m_slo M (m_lo M) = M := rfl
theorem m_th_sce (M : MT) (y : Nat → Int64) : m_th (m_sce M y) = m_th M := rfl
theorem m_hi_sce (M : MT) (y : Nat → Int64) : m_hi (m_sce M y) = m_hi M := rfl
theorem m_wi_sce (M : MT) (y : Nat → Int64) : m_wi (m_sce M y) = m_wi M := rfl
theorem m_kp_sce (M : MT) (y : Nat → Int64) : m_kp (m_sce M y) = m_kp M := rfl
theorem m_va_sce (M : MT) (y : Nat → Int64) : m_va (m_sce M y) = m_va M := rfl
theorem m_mt_sce (M : MT) (y : Nat → Int64) : m_mt (m_sce M y) = m_mt M := rfl
theorem m_ta_sce (M : MT) (y : Nat → Int64) : m_ta (m_sce M y) = m_ta M := rfl
theorem m_tw_sce (M : MT) (y : Nat → Int64) : m_tw (m_sce M y) = m_tw M := rfl
theorem m_ml_sce (M : MT) (y : Nat → Int64) : m_ml (m_sce M y) = m_ml M := rfl
theorem m_lo_sce (M : MT) (y : Nat → Int64) : m_lo (m_sce M y) = m_lo M := rfl
theorem m_ce_sce (M : MT) (y : Nat → Int64) : m_ce (m_sce M y) = y := rfl
theorem m_ld_sce (M : MT) (y : Nat → Int64) : m_ld (m_sce M y) = m_ld M := rfl
theorem m_he_sce (M : MT) (y : Nat → Int64) : m_he (m_sce M y) = m_he M := rfl
theorem m_ny_sce (M : MT) (y : Nat → Int64) : m_ny (m_sce M y) = m_ny M := rfl
theorem m_sce_sce (M : MT) (y z : Nat → Int64) : m_sce (m_sce M y) z = m_sce M z := rfl
theorem m_sce_self (M : MT) : m_sce M (m_ce M) = M := rfl
theorem m_th_sld (M : MT) (y : Int32) : m_th (m_sld M y) = m_th M := rfl
theorem m_hi_sld (M : MT) (y : Int32) : m_hi (m_sld M y) = m_hi M := rfl
theorem m_wi_sld (M : MT) (y : Int32) : m_wi (m_sld M y) = m_wi M := rfl
theorem m_kp_sld (M : MT) (y : Int32) : m_kp (m_sld M y) = m_kp M := rfl
theorem m_va_sld (M : MT) (y : Int32) : m_va (m_sld M y) = m_va M := rfl
theorem m_mt_sld (M : MT) (y : Int32) : m_mt (m_sld M y) = m_mt M := rfl
theorem m_ta_sld (M : MT) (y : Int32) : m_ta (m_sld M y) = m_ta M := rfl
theorem m_tw_sld (M : MT) (y : Int32) : m_tw (m_sld M y) = m_tw M := rfl
theorem m_ml_sld (M : MT) (y : Int32) : m_ml (m_sld M y) = m_ml M := rfl
theorem m_lo_sld (M : MT) (y : Int32) : m_lo (m_sld M y) = m_lo M := rfl
theorem m_ce_sld (M : MT) (y : Int32) : m_ce (m_sld M y) = m_ce M := rfl
theorem m_ld_sld (M : MT) (y : Int32) : m_ld (m_sld M y) = y := rfl
theorem m_he_sld (M : MT) (y : Int32) : m_he (m_sld M y) = m_he M := rfl
theorem m_ny_sld (M : MT) (y : Int32) : m_ny (m_sld M y) = m_ny M := rfl
theorem m_sld_sld (M : MT) (y z : Int32) : m_sld (m_sld M y) z = m_sld M z := rfl
theorem m_sld_self (M : MT) : m_sld M (m_ld M) = M := rfl
theorem m_th_she (M : MT) (y : Nat → Int64) : m_th (m_she M y) = m_th M := rfl
theorem m_hi_she (M : MT) (y : Nat → Int64) : m_hi (m_she M y) = m_hi M := rfl
theorem m_wi_she (M : MT) (y : Nat → Int64) : m_wi (m_she M y) = m_wi M := rfl
theorem m_kp_she (M : MT) (y : Nat → Int64) : m_kp (m_she M y) = m_kp M := rfl
theorem m_va_she (M : MT) (y : Nat → Int64) : m_va (m_she M y) = m_va M := rfl
theorem m_mt_she (M : MT) (y : Nat → Int64) : m_mt (m_she M y) = m_mt M := rfl
theorem m_ta_she (M : MT) (y : Nat → Int64) : m_ta (m_she M y) = m_ta M := rfl
theorem m_tw_she (M : MT) (y : Nat → Int64) : m_tw (m_she M y) = m_tw M := rfl
theorem m_ml_she (M : MT) (y : Nat → Int64) : m_ml (m_she M y) = m_ml M := rfl
theorem m_lo_she (M : MT) (y : Nat → Int64) : m_lo (m_she M y) = m_lo M := rfl
theorem m_ce_she (M : MT) (y : Nat → Int64) : m_ce (m_she M y) = m_ce M := rfl
theorem m_ld_she (M : MT) (y : Nat → Int64) : m_ld (m_she M y) = m_ld M := rfl
theorem m_he_she (M : MT) (y : Nat → Int64) : m_he (m_she M y) = y := rfl
theorem m_ny_she (M : MT) (y : Nat → Int64) : m_ny (m_she M y) = m_ny M := rfl
theorem m_she_she (M : MT) (y z : Nat → Int64) : m_she (m_she M y) z = m_she M z := rfl
theorem m_she_self (M : MT) : m_she M (m_he M) = M := rfl
theorem m_th_sny (M : MT) (y : Nat → Int64) : m_th (m_sny M y) = m_th M := rfl
theorem m_hi_sny (M : MT) (y : Nat → Int64) : m_hi (m_sny M y) = m_hi M := rfl
theorem m_wi_sny (M : MT) (y : Nat → Int64) : m_wi (m_sny M y) = m_wi M := rfl
theorem m_kp_sny (M : MT) (y : Nat → Int64) : m_kp (m_sny M y) = m_kp M := rfl
theorem m_va_sny (M : MT) (y : Nat → Int64) : m_va (m_sny M y) = m_va M := rfl
theorem m_mt_sny (M : MT) (y : Nat → Int64) : m_mt (m_sny M y) = m_mt M := rfl
theorem m_ta_sny (M : MT) (y : Nat → Int64) : m_ta (m_sny M y) = m_ta M := rfl
theorem m_tw_sny (M : MT) (y : Nat → Int64) : m_tw (m_sny M y) = m_tw M := rfl
theorem m_ml_sny (M : MT) (y : Nat → Int64) : m_ml (m_sny M y) = m_ml M := rfl
theorem m_lo_sny (M : MT) (y : Nat → Int64) : m_lo (m_sny M y) = m_lo M := rfl
theorem m_ce_sny (M : MT) (y : Nat → Int64) : m_ce (m_sny M y) = m_ce M := rfl
theorem m_ld_sny (M : MT) (y : Nat → Int64) : m_ld (m_sny M y) = m_ld M := rfl
theorem m_he_sny (M : MT) (y : Nat → Int64) : m_he (m_sny M y) = m_he M := rfl
theorem m_ny_sny (M : MT) (y : Nat → Int64) : m_ny (m_sny M y) = y := rfl
theorem m_sny_sny (M : MT) (y z : Nat → Int64) : m_sny (m_sny M y) z = m_sny M z := rfl
theorem m_sny_self (M : MT) : m_sny M (m_ny M) = M := rfl
theorem k_cm_rc_cc (K : KT) (y : Nat → Int32) (z : Nat → Int32) : k_src (k_scc K z) y = k_scc (k_src K y) z := rfl
theorem k_cm_rc_kc (K : KT) (y : Nat → Int32) (z : Nat → Nat → Int32) : k_src (k_skc K z) y = k_skc (k_src K y) z := rfl
theorem k_cm_cc_kc (K : KT) (y : Nat → Int32) (z : Nat → Nat → Int32) : k_scc (k_skc K z) y = k_skc (k_scc K y) z := rfl
theorem k_cm_rc_vs (K : KT) (y : Nat → Int32) (z : Nat → Nat → Int64) : k_src (k_svs K z) y = k_svs (k_src K y) z := rfl
theorem k_cm_cc_vs (K : KT) (y : Nat → Int32) (z : Nat → Nat → Int64) : k_scc (k_svs K z) y = k_svs (k_scc K y) z := rfl
theorem k_cm_kc_vs (K : KT) (y : Nat → Nat → Int32) (z : Nat → Nat → Int64) : k_skc (k_svs K z) y = k_svs (k_skc K y) z := rfl
theorem k_cm_rc_sl (K : KT) (y : Nat → Int32) (z : Nat → Option Nat) : k_src (k_ssl K z) y = k_ssl (k_src K y) z := rfl
theorem k_cm_cc_sl (K : KT) (y : Nat → Int32) (z : Nat → Option Nat) : k_scc (k_ssl K z) y = k_ssl (k_scc K y) z := rfl
theorem k_cm_kc_sl (K : KT) (y : Nat → Nat → Int32) (z : Nat → Option Nat) : k_skc (k_ssl K z) y = k_ssl (k_skc K y) z := rfl
theorem k_cm_vs_sl (K : KT) (y : Nat → Nat → Int64) (z : Nat → Option Nat) : k_svs (k_ssl K z) y = k_ssl (k_svs K y) z := rfl
theorem k_cm_rc_d (K : KT) (y : Nat → Int32) (z : Nat) : k_src (k_sd K z) y = k_sd (k_src K y) z := rfl
theorem k_cm_cc_d (K : KT) (y : Nat → Int32) (z : Nat) : k_scc (k_sd K z) y = k_sd (k_scc K y) z := rfl
theorem k_cm_kc_d (K : KT) (y : Nat → Nat → Int32) (z : Nat) : k_skc (k_sd K z) y = k_sd (k_skc K y) z := rfl
theorem k_cm_vs_d (K : KT) (y : Nat → Nat → Int64) (z : Nat) : k_svs (k_sd K z) y = k_sd (k_svs K y) z := rfl
theorem k_cm_sl_d (K : KT) (y : Nat → Option Nat) (z : Nat) : k_ssl (k_sd K z) y = k_sd (k_ssl K y) z := rfl
theorem k_cm_rc_nu (K : KT) (y : Nat → Int32) (z : Nat) : k_src (k_snu K z) y = k_snu (k_src K y) z := rfl
theorem k_cm_cc_nu (K : KT) (y : Nat → Int32) (z : Nat) : k_scc (k_snu K z) y = k_snu (k_scc K y) z := rfl
theorem k_cm_kc_nu (K : KT) (y : Nat → Nat → Int32) (z : Nat) : k_skc (k_snu K z) y = k_snu (k_skc K y) z := rfl
theorem k_cm_vs_nu (K : KT) (y : Nat → Nat → Int64) (z : Nat) : k_svs (k_snu K z) y = k_snu (k_svs K y) z := rfl
theorem k_cm_sl_nu (K : KT) (y : Nat → Option Nat) (z : Nat) : k_ssl (k_snu K z) y = k_snu (k_ssl K y) z := rfl
theorem k_cm_d_nu (K : KT) (y : Nat) (z : Nat) : k_sd (k_snu K z) y = k_snu (k_sd K y) z := rfl
theorem k_cm_rc_dn (K : KT) (y : Nat → Int32) (z : Nat) : k_src (k_sdn K z) y = k_sdn (k_src K y) z := rfl
theorem k_cm_cc_dn (K : KT) (y : Nat → Int32) (z : Nat) : k_scc (k_sdn K z) y = k_sdn (k_scc K y) z := rfl
theorem k_cm_kc_dn (K : KT) (y : Nat → Nat → Int32) (z : Nat) : k_skc (k_sdn K z) y = k_sdn (k_skc K y) z := rfl
theorem k_cm_vs_dn (K : KT) (y : Nat → Nat → Int64) (z : Nat) : k_svs (k_sdn K z) y = k_sdn (k_svs K y) z := rfl
theorem k_cm_sl_dn (K : KT) (y : Nat → Option Nat) (z : Nat) : k_ssl (k_sdn K z) y = k_sdn (k_ssl K y) z := rfl
theorem k_cm_d_dn (K : KT) (y : Nat) (z : Nat) : k_sd (k_sdn K z) y = k_sdn (k_sd K y) z := rfl
theorem k_cm_nu_dn (K : KT) (y : Nat) (z : Nat) : k_snu (k_sdn K z) y = k_sdn (k_snu K y) z := rfl
theorem k_cm_rc_tl (K : KT) (y : Nat → Int32) (z : Int32) : k_src (k_stl K z) y = k_stl (k_src K y) z := rfl
theorem k_cm_cc_tl (K : KT) (y : Nat → Int32) (z : Int32) : k_scc (k_stl K z) y = k_stl (k_scc K y) z := rfl
theorem k_cm_kc_tl (K : KT) (y : Nat → Nat → Int32) (z : Int32) : k_skc (k_stl K z) y = k_stl (k_skc K y) z := rfl
theorem k_cm_vs_tl (K : KT) (y : Nat → Nat → Int64) (z : Int32) : k_svs (k_stl K z) y = k_stl (k_svs K y) z := rfl
theorem k_cm_sl_tl (K : KT) (y : Nat → Option Nat) (z : Int32) : k_ssl (k_stl K z) y = k_stl (k_ssl K y) z := rfl
theorem k_cm_d_tl (K : KT) (y : Nat) (z : Int32) : k_sd (k_stl K z) y = k_stl (k_sd K y) z := rfl
theorem k_cm_nu_tl (K : KT) (y : Nat) (z : Int32) : k_snu (k_stl K z) y = k_stl (k_snu K y) z := rfl
theorem k_cm_dn_tl (K : KT) (y : Nat) (z : Int32) : k_sdn (k_stl K z) y = k_stl (k_sdn K y) z := rfl
theorem k_cm_rc_tr (K : KT) (y : Nat → Int32) (z : Nat → Int32) : k_src (k_str K z) y = k_str (k_src K y) z := rfl
theorem k_cm_cc_tr (K : KT) (y : Nat → Int32) (z : Nat → Int32) : k_scc (k_str K z) y = k_str (k_scc K y) z := rfl
theorem k_cm_kc_tr (K : KT) (y : Nat → Nat → Int32) (z : Nat → Int32) : k_skc (k_str K z) y = k_str (k_skc K y) z := rfl
theorem k_cm_vs_tr (K : KT) (y : Nat → Nat → Int64) (z : Nat → Int32) : k_svs (k_str K z) y = k_str (k_svs K y) z := rfl
theorem k_cm_sl_tr (K : KT) (y : Nat → Option Nat) (z : Nat → Int32) : k_ssl (k_str K z) y = k_str (k_ssl K y) z := rfl
theorem k_cm_d_tr (K : KT) (y : Nat) (z : Nat → Int32) : k_sd (k_str K z) y = k_str (k_sd K y) z := rfl
theorem k_cm_nu_tr (K : KT) (y : Nat) (z : Nat → Int32) : k_snu (k_str K z) y = k_str (k_snu K y) z := rfl
theorem k_cm_dn_tr (K : KT) (y : Nat) (z : Nat → Int32) : k_sdn (k_str K z) y = k_str (k_sdn K y) z := rfl
theorem k_cm_tl_tr (K : KT) (y : Int32) (z : Nat → Int32) : k_stl (k_str K z) y = k_str (k_stl K y) z := rfl
theorem k_cm_rc_tc (K : KT) (y : Nat → Int32) (z : Nat → Int32) : k_src (k_stc K z) y = k_stc (k_src K y) z := rfl
theorem k_cm_cc_tc (K : KT) (y : Nat → Int32) (z : Nat → Int32) : k_scc (k_stc K z) y = k_stc (k_scc K y) z := rfl
theorem k_cm_kc_tc (K : KT) (y : Nat → Nat → Int32) (z : Nat → Int32) : k_skc (k_stc K z) y = k_stc (k_skc K y) z := rfl
theorem k_cm_vs_tc (K : KT) (y : Nat → Nat → Int64) (z : Nat → Int32) : k_svs (k_stc K z) y = k_stc (k_svs K y) z := rfl
theorem k_cm_sl_tc (K : KT) (y : Nat → Option Nat) (z : Nat → Int32) : k_ssl (k_stc K z) y = k_stc (k_ssl K y) z := rfl
theorem k_cm_d_tc (K : KT) (y : Nat) (z : Nat → Int32) : k_sd (k_stc K z) y = k_stc (k_sd K y) z := rfl
theorem k_cm_nu_tc (K : KT) (y : Nat) (z : Nat → Int32) : k_snu (k_stc K z) y = k_stc (k_snu K y) z := rfl
theorem k_cm_dn_tc (K : KT) (y : Nat) (z : Nat → Int32) : k_sdn (k_stc K z) y = k_stc (k_sdn K y) z := rfl
theorem k_cm_tl_tc (K : KT) (y : Int32) (z : Nat → Int32) : k_stl (k_stc K z) y = k_stc (k_stl K y) z := rfl
theorem k_cm_tr_tc (K : KT) (y : Nat → Int32) (z : Nat → Int32) : k_str (k_stc K z) y = k_stc (k_str K y) z := rfl
theorem k_cm_rc_tv (K : KT) (y : Nat → Int32) (z : Nat → Int64) : k_src (k_stv K z) y = k_stv (k_src K y) z := rfl
theorem k_cm_cc_tv (K : KT) (y : Nat → Int32) (z : Nat → Int64) : k_scc (k_stv K z) y = k_stv (k_scc K y) z := rfl
theorem k_cm_kc_tv (K : KT) (y : Nat → Nat → Int32) (z : Nat → Int64) : k_skc (k_stv K z) y = k_stv (k_skc K y) z := rfl
theorem k_cm_vs_tv (K : KT) (y : Nat → Nat → Int64) (z : Nat → Int64) : k_svs (k_stv K z) y = k_stv (k_svs K y) z := rfl
theorem k_cm_sl_tv (K : KT) (y : Nat → Option Nat) (z : Nat → Int64) : k_ssl (k_stv K z) y = k_stv (k_ssl K y) z := rfl
theorem k_cm_d_tv (K : KT) (y : Nat) (z : Nat → Int64) : k_sd (k_stv K z) y = k_stv (k_sd K y) z := rfl
theorem k_cm_nu_tv (K : KT) (y : Nat) (z : Nat → Int64) : k_snu (k_stv K z) y = k_stv (k_snu K y) z := rfl
theorem k_cm_dn_tv (K : KT) (y : Nat) (z : Nat → Int64) : k_sdn (k_stv K z) y = k_stv (k_sdn K y) z := rfl
theorem k_cm_tl_tv (K : KT) (y : Int32) (z : Nat → Int64) : k_stl (k_stv K z) y = k_stv (k_stl K y) z := rfl
theorem k_cm_tr_tv (K : KT) (y : Nat → Int32) (z : Nat → Int64) : k_str (k_stv K z) y = k_stv (k_str K y) z := rfl
theorem k_cm_tc_tv (K : KT) (y : Nat → Int32) (z : Nat → Int64) : k_stc (k_stv K z) y = k_stv (k_stc K y) z := rfl
theorem k_cm_rc_nl (K : KT) (y : Nat → Int32) (z : Nat → Int32) : k_src (k_snl K z) y = k_snl (k_src K y) z := rfl
theorem k_cm_cc_nl (K : KT) (y : Nat → Int32) (z : Nat → Int32) : k_scc (k_snl K z) y = k_snl (k_scc K y) z := rfl
theorem k_cm_kc_nl (K : KT) (y : Nat → Nat → Int32) (z : Nat → Int32) : k_skc (k_snl K z) y = k_snl (k_skc K y) z := rfl
theorem k_cm_vs_nl (K : KT) (y : Nat → Nat → Int64) (z : Nat → Int32) : k_svs (k_snl K z) y = k_snl (k_svs K y) z := rfl
theorem k_cm_sl_nl (K : KT) (y : Nat → Option Nat) (z : Nat → Int32) : k_ssl (k_snl K z) y = k_snl (k_ssl K y) z := rfl
theorem k_cm_d_nl (K : KT) (y : Nat) (z : Nat → Int32) : k_sd (k_snl K z) y = k_snl (k_sd K y) z := rfl
theorem k_cm_nu_nl (K : KT) (y : Nat) (z : Nat → Int32) : k_snu (k_snl K z) y = k_snl (k_snu K y) z := rfl
theorem k_cm_dn_nl (K : KT) (y : Nat) (z : Nat → Int32) : k_sdn (k_snl K z) y = k_snl (k_sdn K y) z := rfl
theorem k_cm_tl_nl (K : KT) (y : Int32) (z : Nat → Int32) : k_stl (k_snl K z) y = k_snl (k_stl K y) z := rfl
theorem k_cm_tr_nl (K : KT) (y : Nat → Int32) (z : Nat → Int32) : k_str (k_snl K z) y = k_snl (k_str K y) z := rfl
theorem k_cm_tc_nl (K : KT) (y : Nat → Int32) (z : Nat → Int32) : k_stc (k_snl K z) y = k_snl (k_stc K y) z := rfl
theorem k_cm_tv_nl (K : KT) (y : Nat → Int64) (z : Nat → Int32) : k_stv (k_snl K z) y = k_snl (k_stv K y) z := rfl
theorem k_cm_rc_it (K : KT) (y : Nat → Int32) (z : Nat → Nat → Int32) : k_src (k_sit K z) y = k_sit (k_src K y) z := rfl
theorem k_cm_cc_it (K : KT) (y : Nat → Int32) (z : Nat → Nat → Int32) : k_scc (k_sit K z) y = k_sit (k_scc K y) z := rfl
theorem k_cm_kc_it (K : KT) (y : Nat → Nat → Int32) (z : Nat → Nat → Int32) : k_skc (k_sit K z) y = k_sit (k_skc K y) z := rfl
theorem k_cm_vs_it (K : KT) (y : Nat → Nat → Int64) (z : Nat → Nat → Int32) : k_svs (k_sit K z) y = k_sit (k_svs K y) z := rfl
theorem k_cm_sl_it (K : KT) (y : Nat → Option Nat) (z : Nat → Nat → Int32) : k_ssl (k_sit K z) y = k_sit (k_ssl K y) z := rfl
theorem k_cm_d_it (K : KT) (y : Nat) (z : Nat → Nat → Int32) : k_sd (k_sit K z) y = k_sit (k_sd K y) z := rfl
theorem k_cm_nu_it (K : KT) (y : Nat) (z : Nat → Nat → Int32) : k_snu (k_sit K z) y = k_sit (k_snu K y) z := rfl
theorem k_cm_dn_it (K : KT) (y : Nat) (z : Nat → Nat → Int32) : k_sdn (k_sit K z) y = k_sit (k_sdn K y) z := rfl
theorem k_cm_tl_it (K : KT) (y : Int32) (z : Nat → Nat → Int32) : k_stl (k_sit K z) y = k_sit (k_stl K y) z := rfl
theorem k_cm_tr_it (K : KT) (y : Nat → Int32) (z : Nat → Nat → Int32) : k_str (k_sit K z) y = k_sit (k_str K y) z := rfl
theorem k_cm_tc_it (K : KT) (y : Nat → Int32) (z : Nat → Nat → Int32) : k_stc (k_sit K z) y = k_sit (k_stc K y) z := rfl
theorem k_cm_tv_it (K : KT) (y : Nat → Int64) (z : Nat → Nat → Int32) : k_stv (k_sit K z) y = k_sit (k_stv K y) z := rfl
theorem k_cm_nl_it (K : KT) (y : Nat → Int32) (z : Nat → Nat → Int32) : k_snl (k_sit K z) y = k_sit (k_snl K y) z := rfl
theorem k_cm_rc_gz (K : KT) (y : Nat → Int32) (z : Int32) : k_src (k_sgz K z) y = k_sgz (k_src K y) z := rfl
theorem k_cm_cc_gz (K : KT) (y : Nat → Int32) (z : Int32) : k_scc (k_sgz K z) y = k_sgz (k_scc K y) z := rfl
theorem k_cm_kc_gz (K : KT) (y : Nat → Nat → Int32) (z : Int32) : k_skc (k_sgz K z) y = k_sgz (k_skc K y) z := rfl
theorem k_cm_vs_gz (K : KT) (y : Nat → Nat → Int64) (z : Int32) : k_svs (k_sgz K z) y = k_sgz (k_svs K y) z := rfl
theorem k_cm_sl_gz (K : KT) (y : Nat → Option Nat) (z : Int32) : k_ssl (k_sgz K z) y = k_sgz (k_ssl K y) z := rfl
theorem k_cm_d_gz (K : KT) (y : Nat) (z : Int32) : k_sd (k_sgz K z) y = k_sgz (k_sd K y) z := rfl
theorem k_cm_nu_gz (K : KT) (y : Nat) (z : Int32) : k_snu (k_sgz K z) y = k_sgz (k_snu K y) z := rfl
theorem k_cm_dn_gz (K : KT) (y : Nat) (z : Int32) : k_sdn (k_sgz K z) y = k_sgz (k_sdn K y) z := rfl
theorem k_cm_tl_gz (K : KT) (y : Int32) (z : Int32) : k_stl (k_sgz K z) y = k_sgz (k_stl K y) z := rfl
theorem k_cm_tr_gz (K : KT) (y : Nat → Int32) (z : Int32) : k_str (k_sgz K z) y = k_sgz (k_str K y) z := rfl
theorem k_cm_tc_gz (K : KT) (y : Nat → Int32) (z : Int32) : k_stc (k_sgz K z) y = k_sgz (k_stc K y) z := rfl
theorem k_cm_tv_gz (K : KT) (y : Nat → Int64) (z : Int32) : k_stv (k_sgz K z) y = k_sgz (k_stv K y) z := rfl
theorem k_cm_nl_gz (K : KT) (y : Nat → Int32) (z : Int32) : k_snl (k_sgz K z) y = k_sgz (k_snl K y) z := rfl
theorem k_cm_it_gz (K : KT) (y : Nat → Nat → Int32) (z : Int32) : k_sit (k_sgz K z) y = k_sgz (k_sit K y) z := rfl
theorem k_cm_rc_ar (K : KT) (y : Nat → Int32) (z : Nat → Int32) : k_src (k_sar K z) y = k_sar (k_src K y) z := rfl
theorem k_cm_cc_ar (K : KT) (y : Nat → Int32) (z : Nat → Int32) : k_scc (k_sar K z) y = k_sar (k_scc K y) z := rfl
theorem k_cm_kc_ar (K : KT) (y : Nat → Nat → Int32) (z : Nat → Int32) : k_skc (k_sar K z) y = k_sar (k_skc K y) z := rfl
theorem k_cm_vs_ar (K : KT) (y : Nat → Nat → Int64) (z : Nat → Int32) : k_svs (k_sar K z) y = k_sar (k_svs K y) z := rfl
theorem k_cm_sl_ar (K : KT) (y : Nat → Option Nat) (z : Nat → Int32) : k_ssl (k_sar K z) y = k_sar (k_ssl K y) z := rfl
theorem k_cm_d_ar (K : KT) (y : Nat) (z : Nat → Int32) : k_sd (k_sar K z) y = k_sar (k_sd K y) z := rfl
theorem k_cm_nu_ar (K : KT) (y : Nat) (z : Nat → Int32) : k_snu (k_sar K z) y = k_sar (k_snu K y) z := rfl
theorem k_cm_dn_ar (K : KT) (y : Nat) (z : Nat → Int32) : k_sdn (k_sar K z) y = k_sar (k_sdn K y) z := rfl
theorem k_cm_tl_ar (K : KT) (y : Int32) (z : Nat → Int32) : k_stl (k_sar K z) y = k_sar (k_stl K y) z := rfl
theorem k_cm_tr_ar (K : KT) (y : Nat → Int32) (z : Nat → Int32) : k_str (k_sar K z) y = k_sar (k_str K y) z := rfl
theorem k_cm_tc_ar (K : KT) (y : Nat → Int32) (z : Nat → Int32) : k_stc (k_sar K z) y = k_sar (k_stc K y) z := rfl
theorem k_cm_tv_ar (K : KT) (y : Nat → Int64) (z : Nat → Int32) : k_stv (k_sar K z) y = k_sar (k_stv K y) z := rfl
theorem k_cm_nl_ar (K : KT) (y : Nat → Int32) (z : Nat → Int32) : k_snl (k_sar K z) y = k_sar (k_snl K y) z := rfl
theorem k_cm_it_ar (K : KT) (y : Nat → Nat → Int32) (z : Nat → Int32) : k_sit (k_sar K z) y = k_sar (k_sit K y) z := rfl
theorem k_cm_gz_ar (K : KT) (y : Int32) (z : Nat → Int32) : k_sgz (k_sar K z) y = k_sar (k_sgz K y) z := rfl
theorem k_cm_rc_ne (K : KT) (y : Nat → Int32) (z : Nat → Int32) : k_src (k_sne K z) y = k_sne (k_src K y) z := rfl
theorem k_cm_cc_ne (K : KT) (y : Nat → Int32) (z : Nat → Int32) : k_scc (k_sne K z) y = k_sne (k_scc K y) z := rfl
theorem k_cm_kc_ne (K : KT) (y : Nat → Nat → Int32) (z : Nat → Int32) : k_skc (k_sne K z) y = k_sne (k_skc K y) z := rfl
theorem k_cm_vs_ne (K : KT) (y : Nat → Nat → Int64) (z : Nat → Int32) : k_svs (k_sne K z) y = k_sne (k_svs K y) z := rfl
theorem k_cm_sl_ne (K : KT) (y : Nat → Option Nat) (z : Nat → Int32) : k_ssl (k_sne K z) y = k_sne (k_ssl K y) z := rfl
theorem k_cm_d_ne (K : KT) (y : Nat) (z : Nat → Int32) : k_sd (k_sne K z) y = k_sne (k_sd K y) z := rfl
theorem k_cm_nu_ne (K : KT) (y : Nat) (z : Nat → Int32) : k_snu (k_sne K z) y = k_sne (k_snu K y) z := rfl
theorem k_cm_dn_ne (K : KT) (y : Nat) (z : Nat → Int32) : k_sdn (k_sne K z) y = k_sne (k_sdn K y) z := rfl
theorem k_cm_tl_ne (K : KT) (y : Int32) (z : Nat → Int32) : k_stl (k_sne K z) y = k_sne (k_stl K y) z := rfl
theorem k_cm_tr_ne (K : KT) (y : Nat → Int32) (z : Nat → Int32) : k_str (k_sne K z) y = k_sne (k_str K y) z := rfl
theorem k_cm_tc_ne (K : KT) (y : Nat → Int32) (z : Nat → Int32) : k_stc (k_sne K z) y = k_sne (k_stc K y) z := rfl
theorem k_cm_tv_ne (K : KT) (y : Nat → Int64) (z : Nat → Int32) : k_stv (k_sne K z) y = k_sne (k_stv K y) z := rfl
theorem k_cm_nl_ne (K : KT) (y : Nat → Int32) (z : Nat → Int32) : k_snl (k_sne K z) y = k_sne (k_snl K y) z := rfl
theorem k_cm_it_ne (K : KT) (y : Nat → Nat → Int32) (z : Nat → Int32) : k_sit (k_sne K z) y = k_sne (k_sit K y) z := rfl
theorem k_cm_gz_ne (K : KT) (y : Int32) (z : Nat → Int32) : k_sgz (k_sne K z) y = k_sne (k_sgz K y) z := rfl
theorem k_cm_ar_ne (K : KT) (y : Nat → Int32) (z : Nat → Int32) : k_sar (k_sne K z) y = k_sne (k_sar K y) z := rfl
theorem k_cm_rc_re (K : KT) (y : Nat → Int32) (z : Nat → Int32) : k_src (k_sre K z) y = k_sre (k_src K y) z := rfl
theorem k_cm_cc_re (K : KT) (y : Nat → Int32) (z : Nat → Int32) : k_scc (k_sre K z) y = k_sre (k_scc K y) z := rfl
theorem k_cm_kc_re (K : KT) (y : Nat → Nat → Int32) (z : Nat → Int32) : k_skc (k_sre K z) y = k_sre (k_skc K y) z := rfl
theorem k_cm_vs_re (K : KT) (y : Nat → Nat → Int64) (z : Nat → Int32) : k_svs (k_sre K z) y = k_sre (k_svs K y) z := rfl
theorem k_cm_sl_re (K : KT) (y : Nat → Option Nat) (z : Nat → Int32) : k_ssl (k_sre K z) y = k_sre (k_ssl K y) z := rfl
theorem k_cm_d_re (K : KT) (y : Nat) (z : Nat → Int32) : k_sd (k_sre K z) y = k_sre (k_sd K y) z := rfl
theorem k_cm_nu_re (K : KT) (y : Nat) (z : Nat → Int32) : k_snu (k_sre K z) y = k_sre (k_snu K y) z := rfl
theorem k_cm_dn_re (K : KT) (y : Nat) (z : Nat → Int32) : k_sdn (k_sre K z) y = k_sre (k_sdn K y) z := rfl
theorem k_cm_tl_re (K : KT) (y : Int32) (z : Nat → Int32) : k_stl (k_sre K z) y = k_sre (k_stl K y) z := rfl
theorem k_cm_tr_re (K : KT) (y : Nat → Int32) (z : Nat → Int32) : k_str (k_sre K z) y = k_sre (k_str K y) z := rfl
theorem k_cm_tc_re (K : KT) (y : Nat → Int32) (z : Nat → Int32) : k_stc (k_sre K z) y = k_sre (k_stc K y) z := rfl
theorem k_cm_tv_re (K : KT) (y : Nat → Int64) (z : Nat → Int32) : k_stv (k_sre K z) y = k_sre (k_stv K y) z := rfl
theorem k_cm_nl_re (K : KT) (y : Nat → Int32) (z : Nat → Int32) : k_snl (k_sre K z) y = k_sre (k_snl K y) z := rfl
theorem k_cm_it_re (K : KT) (y : Nat → Nat → Int32) (z : Nat → Int32) : k_sit (k_sre K z) y = k_sre (k_sit K y) z := rfl
theorem k_cm_gz_re (K : KT) (y : Int32) (z : Nat → Int32) : k_sgz (k_sre K z) y = k_sre (k_sgz K y) z := rfl
theorem k_cm_ar_re (K : KT) (y : Nat → Int32) (z : Nat → Int32) : k_sar (k_sre K z) y = k_sre (k_sar K y) z := rfl
theorem k_cm_ne_re (K : KT) (y : Nat → Int32) (z : Nat → Int32) : k_sne (k_sre K z) y = k_sre (k_sne K y) z := rfl
theorem k_cm_rc_sj (K : KT) (y : Nat → Int32) (z : Nat → Nat → Int64) : k_src (k_ssj K z) y = k_ssj (k_src K y) z := rfl
theorem k_cm_cc_sj (K : KT) (y : Nat → Int32) (z : Nat → Nat → Int64) : k_scc (k_ssj K z) y = k_ssj (k_scc K y) z := rfl
theorem k_cm_kc_sj (K : KT) (y : Nat → Nat → Int32) (z : Nat → Nat → Int64) : k_skc (k_ssj K z) y = k_ssj (k_skc K y) z := rfl
theorem k_cm_vs_sj (K : KT) (y : Nat → Nat → Int64) (z : Nat → Nat → Int64) : k_svs (k_ssj K z) y = k_ssj (k_svs K y) z := rfl
theorem k_cm_sl_sj (K : KT) (y : Nat → Option Nat) (z : Nat → Nat → Int64) : k_ssl (k_ssj K z) y = k_ssj (k_ssl K y) z := rfl
theorem k_cm_d_sj (K : KT) (y : Nat) (z : Nat → Nat → Int64) : k_sd (k_ssj K z) y = k_ssj (k_sd K y) z := rfl
theorem k_cm_nu_sj (K : KT) (y : Nat) (z : Nat → Nat → Int64) : k_snu (k_ssj K z) y = k_ssj (k_snu K y) z := rfl
theorem k_cm_dn_sj (K : KT) (y : Nat) (z : Nat → Nat → Int64) : k_sdn (k_ssj K z) y = k_ssj (k_sdn K y) z := rfl
theorem k_cm_tl_sj (K : KT) (y : Int32) (z : Nat → Nat → Int64) : k_stl (k_ssj K z) y = k_ssj (k_stl K y) z := rfl
theorem k_cm_tr_sj (K : KT) (y : Nat → Int32) (z : Nat → Nat → Int64) : k_str (k_ssj K z) y = k_ssj (k_str K y) z := rfl
theorem k_cm_tc_sj (K : KT) (y : Nat → Int32) (z : Nat → Nat → Int64) : k_stc (k_ssj K z) y = k_ssj (k_stc K y) z := rfl
theorem k_cm_tv_sj (K : KT) (y : Nat → Int64) (z : Nat → Nat → Int64) : k_stv (k_ssj K z) y = k_ssj (k_stv K y) z := rfl
theorem k_cm_nl_sj (K : KT) (y : Nat → Int32) (z : Nat → Nat → Int64) : k_snl (k_ssj K z) y = k_ssj (k_snl K y) z := rfl
theorem k_cm_it_sj (K : KT) (y : Nat → Nat → Int32) (z : Nat → Nat → Int64) : k_sit (k_ssj K z) y = k_ssj (k_sit K y) z := rfl
theorem k_cm_gz_sj (K : KT) (y : Int32) (z : Nat → Nat → Int64) : k_sgz (k_ssj K z) y = k_ssj (k_sgz K y) z := rfl
theorem k_cm_ar_sj (K : KT) (y : Nat → Int32) (z : Nat → Nat → Int64) : k_sar (k_ssj K z) y = k_ssj (k_sar K y) z := rfl
theorem k_cm_ne_sj (K : KT) (y : Nat → Int32) (z : Nat → Nat → Int64) : k_sne (k_ssj K z) y = k_ssj (k_sne K y) z := rfl
theorem k_cm_re_sj (K : KT) (y : Nat → Int32) (z : Nat → Nat → Int64) : k_sre (k_ssj K z) y = k_ssj (k_sre K y) z := rfl
theorem k_cm_rc_st (K : KT) (y : Nat → Int32) (z : Nat) : k_src (k_sst K z) y = k_sst (k_src K y) z := rfl
theorem k_cm_cc_st (K : KT) (y : Nat → Int32) (z : Nat) : k_scc (k_sst K z) y = k_sst (k_scc K y) z := rfl
theorem k_cm_kc_st (K : KT) (y : Nat → Nat → Int32) (z : Nat) : k_skc (k_sst K z) y = k_sst (k_skc K y) z := rfl
theorem k_cm_vs_st (K : KT) (y : Nat → Nat → Int64) (z : Nat) : k_svs (k_sst K z) y = k_sst (k_svs K y) z := rfl
theorem k_cm_sl_st (K : KT) (y : Nat → Option Nat) (z : Nat) : k_ssl (k_sst K z) y = k_sst (k_ssl K y) z := rfl
theorem k_cm_d_st (K : KT) (y : Nat) (z : Nat) : k_sd (k_sst K z) y = k_sst (k_sd K y) z := rfl
theorem k_cm_nu_st (K : KT) (y : Nat) (z : Nat) : k_snu (k_sst K z) y = k_sst (k_snu K y) z := rfl
theorem k_cm_dn_st (K : KT) (y : Nat) (z : Nat) : k_sdn (k_sst K z) y = k_sst (k_sdn K y) z := rfl
theorem k_cm_tl_st (K : KT) (y : Int32) (z : Nat) : k_stl (k_sst K z) y = k_sst (k_stl K y) z := rfl
theorem k_cm_tr_st (K : KT) (y : Nat → Int32) (z : Nat) : k_str (k_sst K z) y = k_sst (k_str K y) z := rfl
theorem k_cm_tc_st (K : KT) (y : Nat → Int32) (z : Nat) : k_stc (k_sst K z) y = k_sst (k_stc K y) z := rfl
theorem k_cm_tv_st (K : KT) (y : Nat → Int64) (z : Nat) : k_stv (k_sst K z) y = k_sst (k_stv K y) z := rfl
theorem k_cm_nl_st (K : KT) (y : Nat → Int32) (z : Nat) : k_snl (k_sst K z) y = k_sst (k_snl K y) z := rfl
theorem k_cm_it_st (K : KT) (y : Nat → Nat → Int32) (z : Nat) : k_sit (k_sst K z) y = k_sst (k_sit K y) z := rfl
theorem k_cm_gz_st (K : KT) (y : Int32) (z : Nat) : k_sgz (k_sst K z) y = k_sst (k_sgz K y) z := rfl
theorem k_cm_ar_st (K : KT) (y : Nat → Int32) (z : Nat) : k_sar (k_sst K z) y = k_sst (k_sar K y) z := rfl
theorem k_cm_ne_st (K : KT) (y : Nat → Int32) (z : Nat) : k_sne (k_sst K z) y = k_sst (k_sne K y) z := rfl
theorem k_cm_re_st (K : KT) (y : Nat → Int32) (z : Nat) : k_sre (k_sst K z) y = k_sst (k_sre K y) z := rfl
theorem k_cm_sj_st (K : KT) (y : Nat → Nat → Int64) (z : Nat) : k_ssj (k_sst K z) y = k_sst (k_ssj K y) z := rfl
theorem k_cm_rc_nx (K : KT) (y : Nat → Int32) (z : Nat) : k_src (k_snx K z) y = k_snx (k_src K y) z := rfl
theorem k_cm_cc_nx (K : KT) (y : Nat → Int32) (z : Nat) : k_scc (k_snx K z) y = k_snx (k_scc K y) z := rfl
theorem k_cm_kc_nx (K : KT) (y : Nat → Nat → Int32) (z : Nat) : k_skc (k_snx K z) y = k_snx (k_skc K y) z := rfl
theorem k_cm_vs_nx (K : KT) (y : Nat → Nat → Int64) (z : Nat) : k_svs (k_snx K z) y = k_snx (k_svs K y) z := rfl
theorem k_cm_sl_nx (K : KT) (y : Nat → Option Nat) (z : Nat) : k_ssl (k_snx K z) y = k_snx (k_ssl K y) z := rfl
theorem k_cm_d_nx (K : KT) (y : Nat) (z : Nat) : k_sd (k_snx K z) y = k_snx (k_sd K y) z := rfl
theorem k_cm_nu_nx (K : KT) (y : Nat) (z : Nat) : k_snu (k_snx K z) y = k_snx (k_snu K y) z := rfl
theorem k_cm_dn_nx (K : KT) (y : Nat) (z : Nat) : k_sdn (k_snx K z) y = k_snx (k_sdn K y) z := rfl
theorem k_cm_tl_nx (K : KT) (y : Int32) (z : Nat) : k_stl (k_snx K z) y = k_snx (k_stl K y) z := rfl
theorem k_cm_tr_nx (K : KT) (y : Nat → Int32) (z : Nat) : k_str (k_snx K z) y = k_snx (k_str K y) z := rfl
theorem k_cm_tc_nx (K : KT) (y : Nat → Int32) (z : Nat) : k_stc (k_snx K z) y = k_snx (k_stc K y) z := rfl
theorem k_cm_tv_nx (K : KT) (y : Nat → Int64) (z : Nat) : k_stv (k_snx K z) y = k_snx (k_stv K y) z := rfl
theorem k_cm_nl_nx (K : KT) (y : Nat → Int32) (z : Nat) : k_snl (k_snx K z) y = k_snx (k_snl K y) z := rfl
theorem k_cm_it_nx (K : KT) (y : Nat → Nat → Int32) (z : Nat) : k_sit (k_snx K z) y = k_snx (k_sit K y) z := rfl
theorem k_cm_gz_nx (K : KT) (y : Int32) (z : Nat) : k_sgz (k_snx K z) y = k_snx (k_sgz K y) z := rfl
theorem k_cm_ar_nx (K : KT) (y : Nat → Int32) (z : Nat) : k_sar (k_snx K z) y = k_snx (k_sar K y) z := rfl
theorem k_cm_ne_nx (K : KT) (y : Nat → Int32) (z : Nat) : k_sne (k_snx K z) y = k_snx (k_sne K y) z := rfl
theorem k_cm_re_nx (K : KT) (y : Nat → Int32) (z : Nat) : k_sre (k_snx K z) y = k_snx (k_sre K y) z := rfl
theorem k_cm_sj_nx (K : KT) (y : Nat → Nat → Int64) (z : Nat) : k_ssj (k_snx K z) y = k_snx (k_ssj K y) z := rfl
theorem k_cm_st_nx (K : KT) (y : Nat) (z : Nat) : k_sst (k_snx K z) y = k_snx (k_sst K y) z := rfl
theorem m_cm_th_hi (M : MT) (y : Nat → Int32) (z : Nat → Int32) : m_sth (m_shi M z) y = m_shi (m_sth M y) z := rfl
theorem m_cm_th_wi (M : MT) (y : Nat → Int32) (z : Nat → Int32) : m_sth (m_swi M z) y = m_swi (m_sth M y) z := rfl
theorem m_cm_hi_wi (M : MT) (y : Nat → Int32) (z : Nat → Int32) : m_shi (m_swi M z) y = m_swi (m_shi M y) z := rfl
theorem m_cm_th_kp (M : MT) (y : Nat → Int32) (z : Nat → Int32) : m_sth (m_skp M z) y = m_skp (m_sth M y) z := rfl
theorem m_cm_hi_kp (M : MT) (y : Nat → Int32) (z : Nat → Int32) : m_shi (m_skp M z) y = m_skp (m_shi M y) z := rfl
theorem m_cm_wi_kp (M : MT) (y : Nat → Int32) (z : Nat → Int32) : m_swi (m_skp M z) y = m_skp (m_swi M y) z := rfl
theorem m_cm_th_va (M : MT) (y : Nat → Int32) (z : Nat → Int64) : m_sth (m_sva M z) y = m_sva (m_sth M y) z := rfl
theorem m_cm_hi_va (M : MT) (y : Nat → Int32) (z : Nat → Int64) : m_shi (m_sva M z) y = m_sva (m_shi M y) z := rfl
theorem m_cm_wi_va (M : MT) (y : Nat → Int32) (z : Nat → Int64) : m_swi (m_sva M z) y = m_sva (m_swi M y) z := rfl
theorem m_cm_kp_va (M : MT) (y : Nat → Int32) (z : Nat → Int64) : m_skp (m_sva M z) y = m_sva (m_skp M y) z := rfl
theorem m_cm_th_mt (M : MT) (y : Nat → Int32) (z : Int32) : m_sth (m_smt M z) y = m_smt (m_sth M y) z := rfl
theorem m_cm_hi_mt (M : MT) (y : Nat → Int32) (z : Int32) : m_shi (m_smt M z) y = m_smt (m_shi M y) z := rfl
theorem m_cm_wi_mt (M : MT) (y : Nat → Int32) (z : Int32) : m_swi (m_smt M z) y = m_smt (m_swi M y) z := rfl
theorem m_cm_kp_mt (M : MT) (y : Nat → Int32) (z : Int32) : m_skp (m_smt M z) y = m_smt (m_skp M y) z := rfl
theorem m_cm_va_mt (M : MT) (y : Nat → Int64) (z : Int32) : m_sva (m_smt M z) y = m_smt (m_sva M y) z := rfl
theorem m_cm_th_ta (M : MT) (y : Nat → Int32) (z : Nat → Int32) : m_sth (m_sta M z) y = m_sta (m_sth M y) z := rfl
theorem m_cm_hi_ta (M : MT) (y : Nat → Int32) (z : Nat → Int32) : m_shi (m_sta M z) y = m_sta (m_shi M y) z := rfl
theorem m_cm_wi_ta (M : MT) (y : Nat → Int32) (z : Nat → Int32) : m_swi (m_sta M z) y = m_sta (m_swi M y) z := rfl
theorem m_cm_kp_ta (M : MT) (y : Nat → Int32) (z : Nat → Int32) : m_skp (m_sta M z) y = m_sta (m_skp M y) z := rfl
theorem m_cm_va_ta (M : MT) (y : Nat → Int64) (z : Nat → Int32) : m_sva (m_sta M z) y = m_sta (m_sva M y) z := rfl
theorem m_cm_mt_ta (M : MT) (y : Int32) (z : Nat → Int32) : m_smt (m_sta M z) y = m_sta (m_smt M y) z := rfl
theorem m_cm_th_tw (M : MT) (y : Nat → Int32) (z : Nat → Int64) : m_sth (m_stw M z) y = m_stw (m_sth M y) z := rfl
theorem m_cm_hi_tw (M : MT) (y : Nat → Int32) (z : Nat → Int64) : m_shi (m_stw M z) y = m_stw (m_shi M y) z := rfl
theorem m_cm_wi_tw (M : MT) (y : Nat → Int32) (z : Nat → Int64) : m_swi (m_stw M z) y = m_stw (m_swi M y) z := rfl
theorem m_cm_kp_tw (M : MT) (y : Nat → Int32) (z : Nat → Int64) : m_skp (m_stw M z) y = m_stw (m_skp M y) z := rfl
theorem m_cm_va_tw (M : MT) (y : Nat → Int64) (z : Nat → Int64) : m_sva (m_stw M z) y = m_stw (m_sva M y) z := rfl
theorem m_cm_mt_tw (M : MT) (y : Int32) (z : Nat → Int64) : m_smt (m_stw M z) y = m_stw (m_smt M y) z := rfl
theorem m_cm_ta_tw (M : MT) (y : Nat → Int32) (z : Nat → Int64) : m_sta (m_stw M z) y = m_stw (m_sta M y) z := rfl
theorem m_cm_th_ml (M : MT) (y : Nat → Int32) (z : Int32) : m_sth (m_sml M z) y = m_sml (m_sth M y) z := rfl
theorem m_cm_hi_ml (M : MT) (y : Nat → Int32) (z : Int32) : m_shi (m_sml M z) y = m_sml (m_shi M y) z := rfl
theorem m_cm_wi_ml (M : MT) (y : Nat → Int32) (z : Int32) : m_swi (m_sml M z) y = m_sml (m_swi M y) z := rfl
theorem m_cm_kp_ml (M : MT) (y : Nat → Int32) (z : Int32) : m_skp (m_sml M z) y = m_sml (m_skp M y) z := rfl
theorem m_cm_va_ml (M : MT) (y : Nat → Int64) (z : Int32) : m_sva (m_sml M z) y = m_sml (m_sva M y) z := rfl
theorem m_cm_mt_ml (M : MT) (y : Int32) (z : Int32) : m_smt (m_sml M z) y = m_sml (m_smt M y) z := rfl
theorem m_cm_ta_ml (M : MT) (y : Nat → Int32) (z : Int32) : m_sta (m_sml M z) y = m_sml (m_sta M y) z := rfl
theorem m_cm_tw_ml (M : MT) (y : Nat → Int64) (z : Int32) : m_stw (m_sml M z) y = m_sml (m_stw M y) z := rfl
theorem m_cm_th_lo (M : MT) (y : Nat → Int32) (z : Nat → Int32) : m_sth (m_slo M z) y = m_slo (m_sth M y) z := rfl
theorem m_cm_hi_lo (M : MT) (y : Nat → Int32) (z : Nat → Int32) : m_shi (m_slo M z) y = m_slo (m_shi M y) z := rfl
theorem m_cm_wi_lo (M : MT) (y : Nat → Int32) (z : Nat → Int32) : m_swi (m_slo M z) y = m_slo (m_swi M y) z := rfl
theorem m_cm_kp_lo (M : MT) (y : Nat → Int32) (z : Nat → Int32) : m_skp (m_slo M z) y = m_slo (m_skp M y) z := rfl
theorem m_cm_va_lo (M : MT) (y : Nat → Int64) (z : Nat → Int32) : m_sva (m_slo M z) y = m_slo (m_sva M y) z := rfl
theorem m_cm_mt_lo (M : MT) (y : Int32) (z : Nat → Int32) : m_smt (m_slo M z) y = m_slo (m_smt M y) z := rfl
theorem m_cm_ta_lo (M : MT) (y : Nat → Int32) (z : Nat → Int32) : m_sta (m_slo M z) y = m_slo (m_sta M y) z := rfl
theorem m_cm_tw_lo (M : MT) (y : Nat → Int64) (z : Nat → Int32) : m_stw (m_slo M z) y = m_slo (m_stw M y) z := rfl
theorem m_cm_ml_lo (M : MT) (y : Int32) (z : Nat → Int32) : m_sml (m_slo M z) y = m_slo (m_sml M y) z := rfl
theorem m_cm_th_ce (M : MT) (y : Nat → Int32) (z : Nat → Int64) : m_sth (m_sce M z) y = m_sce (m_sth M y) z := rfl
theorem m_cm_hi_ce (M : MT) (y : Nat → Int32) (z : Nat → Int64) : m_shi (m_sce M z) y = m_sce (m_shi M y) z := rfl
theorem m_cm_wi_ce (M : MT) (y : Nat → Int32) (z : Nat → Int64) : m_swi (m_sce M z) y = m_sce (m_swi M y) z := rfl
theorem m_cm_kp_ce (M : MT) (y : Nat → Int32) (z : Nat → Int64) : m_skp (m_sce M z) y = m_sce (m_skp M y) z := rfl
theorem m_cm_va_ce (M : MT) (y : Nat → Int64) (z : Nat → Int64) : m_sva (m_sce M z) y = m_sce (m_sva M y) z := rfl
theorem m_cm_mt_ce (M : MT) (y : Int32) (z : Nat → Int64) : m_smt (m_sce M z) y = m_sce (m_smt M y) z := rfl
theorem m_cm_ta_ce (M : MT) (y : Nat → Int32) (z : Nat → Int64) : m_sta (m_sce M z) y = m_sce (m_sta M y) z := rfl
theorem m_cm_tw_ce (M : MT) (y : Nat → Int64) (z : Nat → Int64) : m_stw (m_sce M z) y = m_sce (m_stw M y) z := rfl
theorem m_cm_ml_ce (M : MT) (y : Int32) (z : Nat → Int64) : m_sml (m_sce M z) y = m_sce (m_sml M y) z := rfl
theorem m_cm_lo_ce (M : MT) (y : Nat → Int32) (z : Nat → Int64) : m_slo (m_sce M z) y = m_sce (m_slo M y) z := rfl
theorem m_cm_th_ld (M : MT) (y : Nat → Int32) (z : Int32) : m_sth (m_sld M z) y = m_sld (m_sth M y) z := rfl
theorem m_cm_hi_ld (M : MT) (y : Nat → Int32) (z : Int32) : m_shi (m_sld M z) y = m_sld (m_shi M y) z := rfl
theorem m_cm_wi_ld (M : MT) (y : Nat → Int32) (z : Int32) : m_swi (m_sld M z) y = m_sld (m_swi M y) z := rfl
theorem m_cm_kp_ld (M : MT) (y : Nat → Int32) (z : Int32) : m_skp (m_sld M z) y = m_sld (m_skp M y) z := rfl
theorem m_cm_va_ld (M : MT) (y : Nat → Int64) (z : Int32) : m_sva (m_sld M z) y = m_sld (m_sva M y) z := rfl
theorem m_cm_mt_ld (M : MT) (y : Int32) (z : Int32) : m_smt (m_sld M z) y = m_sld (m_smt M y) z := rfl
theorem m_cm_ta_ld (M : MT) (y : Nat → Int32) (z : Int32) : m_sta (m_sld M z) y = m_sld (m_sta M y) z := rfl
theorem m_cm_tw_ld (M : MT) (y : Nat → Int64) (z : Int32) : m_stw (m_sld M z) y = m_sld (m_stw M y) z := rfl
theorem m_cm_ml_ld (M : MT) (y : Int32) (z : Int32) : m_sml (m_sld M z) y = m_sld (m_sml M y) z := rfl
theorem m_cm_lo_ld (M : MT) (y : Nat → Int32) (z : Int32) : m_slo (m_sld M z) y = m_sld (m_slo M y) z := rfl
theorem m_cm_ce_ld (M : MT) (y : Nat → Int64) (z : Int32) : m_sce (m_sld M z) y = m_sld (m_sce M y) z := rfl
theorem m_cm_th_he (M : MT) (y : Nat → Int32) (z : Nat → Int64) : m_sth (m_she M z) y = m_she (m_sth M y) z := rfl
theorem m_cm_hi_he (M : MT) (y : Nat → Int32) (z : Nat → Int64) : m_shi (m_she M z) y = m_she (m_shi M y) z := rfl
theorem m_cm_wi_he (M : MT) (y : Nat → Int32) (z : Nat → Int64) : m_swi (m_she M z) y = m_she (m_swi M y) z := rfl
theorem m_cm_kp_he (M : MT) (y : Nat → Int32) (z : Nat → Int64) : m_skp (m_she M z) y = m_she (m_skp M y) z := rfl
theorem m_cm_va_he (M : MT) (y : Nat → Int64) (z : Nat → Int64) : m_sva (m_she M z) y = m_she (m_sva M y) z := rfl
theorem m_cm_mt_he (M : MT) (y : Int32) (z : Nat → Int64) : m_smt (m_she M z) y = m_she (m_smt M y) z := rfl
theorem m_cm_ta_he (M : MT) (y : Nat → Int32) (z : Nat → Int64) : m_sta (m_she M z) y = m_she (m_sta M y) z := rfl
theorem m_cm_tw_he (M : MT) (y : Nat → Int64) (z : Nat → Int64) : m_stw (m_she M z) y = m_she (m_stw M y) z := rfl
theorem m_cm_ml_he (M : MT) (y : Int32) (z : Nat → Int64) : m_sml (m_she M z) y = m_she (m_sml M y) z := rfl
theorem m_cm_lo_he (M : MT) (y : Nat → Int32) (z : Nat → Int64) : m_slo (m_she M z) y = m_she (m_slo M y) z := rfl
theorem m_cm_ce_he (M : MT) (y : Nat → Int64) (z : Nat → Int64) : m_sce (m_she M z) y = m_she (m_sce M y) z := rfl
theorem m_cm_ld_he (M : MT) (y : Int32) (z : Nat → Int64) : m_sld (m_she M z) y = m_she (m_sld M y) z := rfl
theorem m_cm_th_ny (M : MT) (y : Nat → Int32) (z : Nat → Int64) : m_sth (m_sny M z) y = m_sny (m_sth M y) z := rfl
theorem m_cm_hi_ny (M : MT) (y : Nat → Int32) (z : Nat → Int64) : m_shi (m_sny M z) y = m_sny (m_shi M y) z := rfl
theorem m_cm_wi_ny (M : MT) (y : Nat → Int32) (z : Nat → Int64) : m_swi (m_sny M z) y = m_sny (m_swi M y) z := rfl
theorem m_cm_kp_ny (M : MT) (y : Nat → Int32) (z : Nat → Int64) : m_skp (m_sny M z) y = m_sny (m_skp M y) z := rfl
theorem m_cm_va_ny (M : MT) (y : Nat → Int64) (z : Nat → Int64) : m_sva (m_sny M z) y = m_sny (m_sva M y) z := rfl
theorem m_cm_mt_ny (M : MT) (y : Int32) (z : Nat → Int64) : m_smt (m_sny M z) y = m_sny (m_smt M y) z := rfl
theorem m_cm_ta_ny (M : MT) (y : Nat → Int32) (z : Nat → Int64) : m_sta (m_sny M z) y = m_sny (m_sta M y) z := rfl
theorem m_cm_tw_ny (M : MT) (y : Nat → Int64) (z : Nat → Int64) : m_stw (m_sny M z) y = m_sny (m_stw M y) z := rfl
theorem m_cm_ml_ny (M : MT) (y : Int32) (z : Nat → Int64) : m_sml (m_sny M z) y = m_sny (m_sml M y) z := rfl
theorem m_cm_lo_ny (M : MT) (y : Nat → Int32) (z : Nat → Int64) : m_slo (m_sny M z) y = m_sny (m_slo M y) z := rfl
theorem m_cm_ce_ny (M : MT) (y : Nat → Int64) (z : Nat → Int64) : m_sce (m_sny M z) y = m_sny (m_sce M y) z := rfl
theorem m_cm_ld_ny (M : MT) (y : Int32) (z : Nat → Int64) : m_sld (m_sny M z) y = m_sny (m_sld M y) z := rfl
theorem m_cm_he_ny (M : MT) (y : Nat → Int64) (z : Nat → Int64) : m_she (m_sny M z) y = m_sny (m_she M y) z := rfl
def isG (a : Nat) : Bool := a == 12 || (decide (19 ≤ a) && decide (a ≤ 40) && a % 3 == 1)
theorem isG_cases {a : Nat} (h : isG a = true) : a = 12 ∨ a = 19 ∨ a = 22 ∨ a = 25 ∨ a = 28 ∨ a = 31 ∨ a = 34 ∨ a = 37 ∨ a = 40 := by
  simp [isG] at h
  omega
theorem isG_lo {a : Nat} (h : isG a = true) : 12 ≤ a ∧ a + 2 < NC := by
  have := isG_cases h
  unfold NC
  omega
def E (K : KT) (M : MT) : HP := fun a =>
  if a = 0 then .inl (4, [.ref 1, .ref 2, .ref 6, .ref (k_d K), .ref (k_nu K), .ref (k_dn K)]) else
  if a = 1 then .inr (8, .inr (.inr (.inr (k_sl K)))) else
  if a = 2 then .inl (3, [.int (k_tl K), .ref 3, .ref 4, .ref 5]) else
  if a = 3 then .inr (64, .inl (k_tr K)) else
  if a = 4 then .inr (64, .inl (k_tc K)) else
  if a = 5 then .inr (64, .inr (.inl (k_tv K))) else
  if a = 6 then .inl (0, [.int (k_gz K), .ref 7, .ref 8, .ref 9, .ref (k_st K), .ref (k_nx K)]) else
  if a = 7 then .inr (16, .inl (k_ar K)) else
  if a = 8 then .inr (16, .inl (k_ne K)) else
  if a = 9 then .inr (16, .inl (k_re K)) else
  if a = 10 ∨ a = 11 then .inr (16, .inr (.inl (k_sj K a))) else
  if a = 15 ∨ a = 17 then .inl (2, [.int (k_nl K a), .ref (a + 1)]) else
  if a = 16 ∨ a = 18 then .inr (16, .inl (k_it K (a - 1))) else
  if isG a = true then .inl (1, [.int (k_rc K a), .int (k_cc K a), .ref (a + 1), .ref (a + 2)]) else
  if isG (a - 1) = true then .inr (16, .inl (k_kc K (a - 1))) else
  if isG (a - 2) = true then .inr (256, .inr (.inl (k_vs K (a - 2)))) else
  if a = 43 then .inl (5, [.ref 44, .ref 45, .ref 46, .ref 47, .ref 48, .int (m_mt M), .ref 49, .ref 50, .int (m_ml M), .ref 51, .ref 52, .int (m_ld M), .ref 53, .ref 54]) else
  if a = 44 then .inr (9, .inr (.inr (.inl (m_th M)))) else
  if a = 45 then .inr (9, .inl (m_hi M)) else
  if a = 46 then .inr (9, .inl (m_wi M)) else
  if a = 47 then .inr (2304, .inr (.inr (.inl (m_kp M)))) else
  if a = 48 then .inr (2304, .inr (.inl (m_va M))) else
  if a = 49 then .inr (64, .inl (m_ta M)) else
  if a = 50 then .inr (64, .inr (.inl (m_tw M))) else
  if a = 51 then .inr (16, .inl (m_lo M)) else
  if a = 52 then .inr (3000, .inr (.inl (m_ce M))) else
  if a = 53 then .inr (16, .inr (.inl (m_he M))) else
  if a = 54 then .inr (16, .inr (.inl (m_ny M))) else
  .inl (9, [])
theorem E_0 (K : KT) (M : MT) : E K M 0 = .inl (4, [.ref 1, .ref 2, .ref 6, .ref (k_d K), .ref (k_nu K), .ref (k_dn K)]) := rfl
theorem E_1 (K : KT) (M : MT) : E K M 1 = .inr (8, .inr (.inr (.inr (k_sl K)))) := rfl
theorem E_2 (K : KT) (M : MT) : E K M 2 = .inl (3, [.int (k_tl K), .ref 3, .ref 4, .ref 5]) := rfl
theorem E_3 (K : KT) (M : MT) : E K M 3 = .inr (64, .inl (k_tr K)) := rfl
theorem E_4 (K : KT) (M : MT) : E K M 4 = .inr (64, .inl (k_tc K)) := rfl
theorem E_5 (K : KT) (M : MT) : E K M 5 = .inr (64, .inr (.inl (k_tv K))) := rfl
theorem E_6 (K : KT) (M : MT) : E K M 6 = .inl (0, [.int (k_gz K), .ref 7, .ref 8, .ref 9, .ref (k_st K), .ref (k_nx K)]) := rfl
theorem E_7 (K : KT) (M : MT) : E K M 7 = .inr (16, .inl (k_ar K)) := rfl
theorem E_8 (K : KT) (M : MT) : E K M 8 = .inr (16, .inl (k_ne K)) := rfl
theorem E_9 (K : KT) (M : MT) : E K M 9 = .inr (16, .inl (k_re K)) := rfl
theorem E_43 (K : KT) (M : MT) : E K M 43 = .inl (5, [.ref 44, .ref 45, .ref 46, .ref 47, .ref 48, .int (m_mt M), .ref 49, .ref 50, .int (m_ml M), .ref 51, .ref 52, .int (m_ld M), .ref 53, .ref 54]) := rfl
theorem E_44 (K : KT) (M : MT) : E K M 44 = .inr (9, .inr (.inr (.inl (m_th M)))) := rfl
theorem E_45 (K : KT) (M : MT) : E K M 45 = .inr (9, .inl (m_hi M)) := rfl
theorem E_46 (K : KT) (M : MT) : E K M 46 = .inr (9, .inl (m_wi M)) := rfl
theorem E_47 (K : KT) (M : MT) : E K M 47 = .inr (2304, .inr (.inr (.inl (m_kp M)))) := rfl
theorem E_48 (K : KT) (M : MT) : E K M 48 = .inr (2304, .inr (.inl (m_va M))) := rfl
theorem E_49 (K : KT) (M : MT) : E K M 49 = .inr (64, .inl (m_ta M)) := rfl
theorem E_50 (K : KT) (M : MT) : E K M 50 = .inr (64, .inr (.inl (m_tw M))) := rfl
theorem E_51 (K : KT) (M : MT) : E K M 51 = .inr (16, .inl (m_lo M)) := rfl
theorem E_52 (K : KT) (M : MT) : E K M 52 = .inr (3000, .inr (.inl (m_ce M))) := rfl
theorem E_53 (K : KT) (M : MT) : E K M 53 = .inr (16, .inr (.inl (m_he M))) := rfl
theorem E_54 (K : KT) (M : MT) : E K M 54 = .inr (16, .inr (.inl (m_ny M))) := rfl
theorem E_L {K : KT} {M : MT} {a : Nat} (h : a = 10 ∨ a = 11) : E K M a = .inr (16, .inr (.inl (k_sj K a))) := by rcases h with rfl | rfl <;> rfl
theorem E_N {K : KT} {M : MT} {a : Nat} (h : a = 15 ∨ a = 17) : E K M a = .inl (2, [.int (k_nl K a), .ref (a + 1)]) := by rcases h with rfl | rfl <;> rfl
theorem E_Ni {K : KT} {M : MT} {a : Nat} (h : a = 15 ∨ a = 17) : E K M (a + 1) = .inr (16, .inl (k_it K a)) := by rcases h with rfl | rfl <;> rfl
theorem E_G {K : KT} {M : MT} {a : Nat} (h : isG a = true) : E K M a = .inl (1, [.int (k_rc K a), .int (k_cc K a), .ref (a + 1), .ref (a + 2)]) := by rcases isG_cases h with rfl | rfl | rfl | rfl | rfl | rfl | rfl | rfl | rfl <;> rfl
theorem E_Gk {K : KT} {M : MT} {a : Nat} (h : isG a = true) : E K M (a + 1) = .inr (16, .inl (k_kc K a)) := by rcases isG_cases h with rfl | rfl | rfl | rfl | rfl | rfl | rfl | rfl | rfl <;> rfl
theorem E_Gv {K : KT} {M : MT} {a : Nat} (h : isG a = true) : E K M (a + 2) = .inr (256, .inr (.inl (k_vs K a))) := by rcases isG_cases h with rfl | rfl | rfl | rfl | rfl | rfl | rfl | rfl | rfl <;> rfl
theorem E_usl (K : KT) (M : MT) (y : Nat → Option Nat) : va_up (E K M) 1 (.inr (8, .inr (.inr (.inr y)))) = E (k_ssl K y) M := by
  funext b
  by_cases hb : b = 1
  · subst hb; rw [va_up_self]; rfl
  · rw [va_up_ne _ _ hb]; simp only [E, if_neg hb]; rfl
theorem E_ud (K : KT) (M : MT) (y : Nat) : va_up (E K M) 0 (.inl (4, [.ref 1, .ref 2, .ref 6, .ref y, .ref (k_nu K), .ref (k_dn K)])) = E (k_sd K y) M := by
  funext b
  by_cases hb : b = 0
  · subst hb; rw [va_up_self]; rfl
  · rw [va_up_ne _ _ hb]; simp only [E, if_neg hb]; rfl
theorem E_unu (K : KT) (M : MT) (y : Nat) : va_up (E K M) 0 (.inl (4, [.ref 1, .ref 2, .ref 6, .ref (k_d K), .ref y, .ref (k_dn K)])) = E (k_snu K y) M := by
  funext b
  by_cases hb : b = 0
  · subst hb; rw [va_up_self]; rfl
  · rw [va_up_ne _ _ hb]; simp only [E, if_neg hb]; rfl
theorem E_udn (K : KT) (M : MT) (y : Nat) : va_up (E K M) 0 (.inl (4, [.ref 1, .ref 2, .ref 6, .ref (k_d K), .ref (k_nu K), .ref y])) = E (k_sdn K y) M := by
  funext b
  by_cases hb : b = 0
  · subst hb; rw [va_up_self]; rfl
  · rw [va_up_ne _ _ hb]; simp only [E, if_neg hb]; rfl
theorem E_utl (K : KT) (M : MT) (y : Int32) : va_up (E K M) 2 (.inl (3, [.int y, .ref 3, .ref 4, .ref 5])) = E (k_stl K y) M := by
  funext b
  by_cases hb : b = 2
  · subst hb; rw [va_up_self]; rfl
  · rw [va_up_ne _ _ hb]; simp only [E, if_neg hb]; rfl
theorem E_utr (K : KT) (M : MT) (y : Nat → Int32) : va_up (E K M) 3 (.inr (64, .inl y)) = E (k_str K y) M := by
  funext b
  by_cases hb : b = 3
  · subst hb; rw [va_up_self]; rfl
  · rw [va_up_ne _ _ hb]; simp only [E, if_neg hb]; rfl
theorem E_utc (K : KT) (M : MT) (y : Nat → Int32) : va_up (E K M) 4 (.inr (64, .inl y)) = E (k_stc K y) M := by
  funext b
  by_cases hb : b = 4
  · subst hb; rw [va_up_self]; rfl
  · rw [va_up_ne _ _ hb]; simp only [E, if_neg hb]; rfl
theorem E_utv (K : KT) (M : MT) (y : Nat → Int64) : va_up (E K M) 5 (.inr (64, .inr (.inl y))) = E (k_stv K y) M := by
  funext b
  by_cases hb : b = 5
  · subst hb; rw [va_up_self]; rfl
  · rw [va_up_ne _ _ hb]; simp only [E, if_neg hb]; rfl
theorem E_ugz (K : KT) (M : MT) (y : Int32) : va_up (E K M) 6 (.inl (0, [.int y, .ref 7, .ref 8, .ref 9, .ref (k_st K), .ref (k_nx K)])) = E (k_sgz K y) M := by
  funext b
  by_cases hb : b = 6
  · subst hb; rw [va_up_self]; rfl
  · rw [va_up_ne _ _ hb]; simp only [E, if_neg hb]; rfl
theorem E_ust (K : KT) (M : MT) (y : Nat) : va_up (E K M) 6 (.inl (0, [.int (k_gz K), .ref 7, .ref 8, .ref 9, .ref y, .ref (k_nx K)])) = E (k_sst K y) M := by
  funext b
  by_cases hb : b = 6
  · subst hb; rw [va_up_self]; rfl
  · rw [va_up_ne _ _ hb]; simp only [E, if_neg hb]; rfl
theorem E_unx (K : KT) (M : MT) (y : Nat) : va_up (E K M) 6 (.inl (0, [.int (k_gz K), .ref 7, .ref 8, .ref 9, .ref (k_st K), .ref y])) = E (k_snx K y) M := by
  funext b
  by_cases hb : b = 6
  · subst hb; rw [va_up_self]; rfl
  · rw [va_up_ne _ _ hb]; simp only [E, if_neg hb]; rfl
theorem E_uar (K : KT) (M : MT) (y : Nat → Int32) : va_up (E K M) 7 (.inr (16, .inl y)) = E (k_sar K y) M := by
  funext b
  by_cases hb : b = 7
  · subst hb; rw [va_up_self]; rfl
  · rw [va_up_ne _ _ hb]; simp only [E, if_neg hb]; rfl
theorem E_une (K : KT) (M : MT) (y : Nat → Int32) : va_up (E K M) 8 (.inr (16, .inl y)) = E (k_sne K y) M := by
  funext b
  by_cases hb : b = 8
  · subst hb; rw [va_up_self]; rfl
  · rw [va_up_ne _ _ hb]; simp only [E, if_neg hb]; rfl
theorem E_ure (K : KT) (M : MT) (y : Nat → Int32) : va_up (E K M) 9 (.inr (16, .inl y)) = E (k_sre K y) M := by
  funext b
  by_cases hb : b = 9
  · subst hb; rw [va_up_self]; rfl
  · rw [va_up_ne _ _ hb]; simp only [E, if_neg hb]; rfl
theorem E_umt (K : KT) (M : MT) (y : Int32) : va_up (E K M) 43 (.inl (5, [.ref 44, .ref 45, .ref 46, .ref 47, .ref 48, .int y, .ref 49, .ref 50, .int (m_ml M), .ref 51, .ref 52, .int (m_ld M), .ref 53, .ref 54])) = E K (m_smt M y) := by
  funext b
  by_cases hb : b = 43
  · subst hb; rw [va_up_self]; rfl
  · rw [va_up_ne _ _ hb]; simp only [E, if_neg hb]; rfl
theorem E_uml (K : KT) (M : MT) (y : Int32) : va_up (E K M) 43 (.inl (5, [.ref 44, .ref 45, .ref 46, .ref 47, .ref 48, .int (m_mt M), .ref 49, .ref 50, .int y, .ref 51, .ref 52, .int (m_ld M), .ref 53, .ref 54])) = E K (m_sml M y) := by
  funext b
  by_cases hb : b = 43
  · subst hb; rw [va_up_self]; rfl
  · rw [va_up_ne _ _ hb]; simp only [E, if_neg hb]; rfl
theorem E_uld (K : KT) (M : MT) (y : Int32) : va_up (E K M) 43 (.inl (5, [.ref 44, .ref 45, .ref 46, .ref 47, .ref 48, .int (m_mt M), .ref 49, .ref 50, .int (m_ml M), .ref 51, .ref 52, .int y, .ref 53, .ref 54])) = E K (m_sld M y) := by
  funext b
  by_cases hb : b = 43
  · subst hb; rw [va_up_self]; rfl
  · rw [va_up_ne _ _ hb]; simp only [E, if_neg hb]; rfl
theorem E_uth (K : KT) (M : MT) (y : Nat → Int32) : va_up (E K M) 44 (.inr (9, .inr (.inr (.inl y)))) = E K (m_sth M y) := by
  funext b
  by_cases hb : b = 44
  · subst hb; rw [va_up_self]; rfl
  · rw [va_up_ne _ _ hb]; simp only [E, if_neg hb]; rfl
theorem E_uhi (K : KT) (M : MT) (y : Nat → Int32) : va_up (E K M) 45 (.inr (9, .inl y)) = E K (m_shi M y) := by
  funext b
  by_cases hb : b = 45
  · subst hb; rw [va_up_self]; rfl
  · rw [va_up_ne _ _ hb]; simp only [E, if_neg hb]; rfl
theorem E_uwi (K : KT) (M : MT) (y : Nat → Int32) : va_up (E K M) 46 (.inr (9, .inl y)) = E K (m_swi M y) := by
  funext b
  by_cases hb : b = 46
  · subst hb; rw [va_up_self]; rfl
  · rw [va_up_ne _ _ hb]; simp only [E, if_neg hb]; rfl
theorem E_ukp (K : KT) (M : MT) (y : Nat → Int32) : va_up (E K M) 47 (.inr (2304, .inr (.inr (.inl y)))) = E K (m_skp M y) := by
  funext b
  by_cases hb : b = 47
  · subst hb; rw [va_up_self]; rfl
  · rw [va_up_ne _ _ hb]; simp only [E, if_neg hb]; rfl
theorem E_uva (K : KT) (M : MT) (y : Nat → Int64) : va_up (E K M) 48 (.inr (2304, .inr (.inl y))) = E K (m_sva M y) := by
  funext b
  by_cases hb : b = 48
  · subst hb; rw [va_up_self]; rfl
  · rw [va_up_ne _ _ hb]; simp only [E, if_neg hb]; rfl
theorem E_uta (K : KT) (M : MT) (y : Nat → Int32) : va_up (E K M) 49 (.inr (64, .inl y)) = E K (m_sta M y) := by
  funext b
  by_cases hb : b = 49
  · subst hb; rw [va_up_self]; rfl
  · rw [va_up_ne _ _ hb]; simp only [E, if_neg hb]; rfl
theorem E_utw (K : KT) (M : MT) (y : Nat → Int64) : va_up (E K M) 50 (.inr (64, .inr (.inl y))) = E K (m_stw M y) := by
  funext b
  by_cases hb : b = 50
  · subst hb; rw [va_up_self]; rfl
  · rw [va_up_ne _ _ hb]; simp only [E, if_neg hb]; rfl
theorem E_ulo (K : KT) (M : MT) (y : Nat → Int32) : va_up (E K M) 51 (.inr (16, .inl y)) = E K (m_slo M y) := by
  funext b
  by_cases hb : b = 51
  · subst hb; rw [va_up_self]; rfl
  · rw [va_up_ne _ _ hb]; simp only [E, if_neg hb]; rfl
theorem E_uce (K : KT) (M : MT) (y : Nat → Int64) : va_up (E K M) 52 (.inr (3000, .inr (.inl y))) = E K (m_sce M y) := by
  funext b
  by_cases hb : b = 52
  · subst hb; rw [va_up_self]; rfl
  · rw [va_up_ne _ _ hb]; simp only [E, if_neg hb]; rfl
theorem E_uhe (K : KT) (M : MT) (y : Nat → Int64) : va_up (E K M) 53 (.inr (16, .inr (.inl y))) = E K (m_she M y) := by
  funext b
  by_cases hb : b = 53
  · subst hb; rw [va_up_self]; rfl
  · rw [va_up_ne _ _ hb]; simp only [E, if_neg hb]; rfl
theorem E_uny (K : KT) (M : MT) (y : Nat → Int64) : va_up (E K M) 54 (.inr (16, .inr (.inl y))) = E K (m_sny M y) := by
  funext b
  by_cases hb : b = 54
  · subst hb; rw [va_up_self]; rfl
  · rw [va_up_ne _ _ hb]; simp only [E, if_neg hb]; rfl
theorem E_usj {K : KT} {M : MT} {a : Nat} (h : a = 10 ∨ a = 11) (y : Nat → Int64) : va_up (E K M) a (.inr (16, .inr (.inl y))) = E (k_ssj K (va_up (k_sj K) a y)) M := by
  funext b
  by_cases hb : b = a
  · subst hb
    rw [va_up_self, E_L h]
    simp only [k_rc_ssj, k_cc_ssj, k_kc_ssj, k_vs_ssj, k_sl_ssj, k_d_ssj, k_nu_ssj, k_dn_ssj, k_tl_ssj, k_tr_ssj, k_tc_ssj, k_tv_ssj, k_nl_ssj, k_it_ssj, k_gz_ssj, k_ar_ssj, k_ne_ssj, k_re_ssj, k_sj_ssj, k_st_ssj, k_nx_ssj, va_up_self]
  · rw [va_up_ne _ _ hb]
    have hne : b ≠ a := by exact hb
    have e : va_up (k_sj K) a y b = k_sj K b := va_up_ne _ _ hne
    simp only [E, k_rc_ssj, k_cc_ssj, k_kc_ssj, k_vs_ssj, k_sl_ssj, k_d_ssj, k_nu_ssj, k_dn_ssj, k_tl_ssj, k_tr_ssj, k_tc_ssj, k_tv_ssj, k_nl_ssj, k_it_ssj, k_gz_ssj, k_ar_ssj, k_ne_ssj, k_re_ssj, k_sj_ssj, k_st_ssj, k_nx_ssj, e]
theorem E_unl {K : KT} {M : MT} {a : Nat} (h : a = 15 ∨ a = 17) (y : Int32) : va_up (E K M) a (.inl (2, [.int y, .ref (a + 1)])) = E (k_snl K (va_up (k_nl K) a y)) M := by
  funext b
  by_cases hb : b = a
  · subst hb
    rw [va_up_self, E_N h]
    simp only [k_rc_snl, k_cc_snl, k_kc_snl, k_vs_snl, k_sl_snl, k_d_snl, k_nu_snl, k_dn_snl, k_tl_snl, k_tr_snl, k_tc_snl, k_tv_snl, k_nl_snl, k_it_snl, k_gz_snl, k_ar_snl, k_ne_snl, k_re_snl, k_sj_snl, k_st_snl, k_nx_snl, va_up_self]
  · rw [va_up_ne _ _ hb]
    have hne : b ≠ a := by exact hb
    have e : va_up (k_nl K) a y b = k_nl K b := va_up_ne _ _ hne
    simp only [E, k_rc_snl, k_cc_snl, k_kc_snl, k_vs_snl, k_sl_snl, k_d_snl, k_nu_snl, k_dn_snl, k_tl_snl, k_tr_snl, k_tc_snl, k_tv_snl, k_nl_snl, k_it_snl, k_gz_snl, k_ar_snl, k_ne_snl, k_re_snl, k_sj_snl, k_st_snl, k_nx_snl, e]
theorem E_uit {K : KT} {M : MT} {a : Nat} (h : a = 15 ∨ a = 17) (y : Nat → Int32) : va_up (E K M) (a + 1) (.inr (16, .inl y)) = E (k_sit K (va_up (k_it K) a y)) M := by
  funext b
  by_cases hb : b = (a + 1)
  · subst hb
    rw [va_up_self, E_Ni h]
    simp only [k_rc_sit, k_cc_sit, k_kc_sit, k_vs_sit, k_sl_sit, k_d_sit, k_nu_sit, k_dn_sit, k_tl_sit, k_tr_sit, k_tc_sit, k_tv_sit, k_nl_sit, k_it_sit, k_gz_sit, k_ar_sit, k_ne_sit, k_re_sit, k_sj_sit, k_st_sit, k_nx_sit, va_up_self]
  · rw [va_up_ne _ _ hb]
    have hne : (b - 1) ≠ a := by omega
    have e : va_up (k_it K) a y (b - 1) = k_it K (b - 1) := va_up_ne _ _ hne
    simp only [E, k_rc_sit, k_cc_sit, k_kc_sit, k_vs_sit, k_sl_sit, k_d_sit, k_nu_sit, k_dn_sit, k_tl_sit, k_tr_sit, k_tc_sit, k_tv_sit, k_nl_sit, k_it_sit, k_gz_sit, k_ar_sit, k_ne_sit, k_re_sit, k_sj_sit, k_st_sit, k_nx_sit, e]
theorem E_urc {K : KT} {M : MT} {a : Nat} (h : isG a = true) (y : Int32) : va_up (E K M) a (.inl (1, [.int y, .int (k_cc K a), .ref (a + 1), .ref (a + 2)])) = E (k_src K (va_up (k_rc K) a y)) M := by
  funext b
  by_cases hb : b = a
  · subst hb
    rw [va_up_self, E_G h]
    simp only [k_rc_src, k_cc_src, k_kc_src, k_vs_src, k_sl_src, k_d_src, k_nu_src, k_dn_src, k_tl_src, k_tr_src, k_tc_src, k_tv_src, k_nl_src, k_it_src, k_gz_src, k_ar_src, k_ne_src, k_re_src, k_sj_src, k_st_src, k_nx_src, va_up_self]
  · rw [va_up_ne _ _ hb]
    have hne : b ≠ a := by exact hb
    have e : va_up (k_rc K) a y b = k_rc K b := va_up_ne _ _ hne
    simp only [E, k_rc_src, k_cc_src, k_kc_src, k_vs_src, k_sl_src, k_d_src, k_nu_src, k_dn_src, k_tl_src, k_tr_src, k_tc_src, k_tv_src, k_nl_src, k_it_src, k_gz_src, k_ar_src, k_ne_src, k_re_src, k_sj_src, k_st_src, k_nx_src, e]
theorem E_ucc {K : KT} {M : MT} {a : Nat} (h : isG a = true) (y : Int32) : va_up (E K M) a (.inl (1, [.int (k_rc K a), .int y, .ref (a + 1), .ref (a + 2)])) = E (k_scc K (va_up (k_cc K) a y)) M := by
  funext b
  by_cases hb : b = a
  · subst hb
    rw [va_up_self, E_G h]
    simp only [k_rc_scc, k_cc_scc, k_kc_scc, k_vs_scc, k_sl_scc, k_d_scc, k_nu_scc, k_dn_scc, k_tl_scc, k_tr_scc, k_tc_scc, k_tv_scc, k_nl_scc, k_it_scc, k_gz_scc, k_ar_scc, k_ne_scc, k_re_scc, k_sj_scc, k_st_scc, k_nx_scc, va_up_self]
  · rw [va_up_ne _ _ hb]
    have hne : b ≠ a := by exact hb
    have e : va_up (k_cc K) a y b = k_cc K b := va_up_ne _ _ hne
    simp only [E, k_rc_scc, k_cc_scc, k_kc_scc, k_vs_scc, k_sl_scc, k_d_scc, k_nu_scc, k_dn_scc, k_tl_scc, k_tr_scc, k_tc_scc, k_tv_scc, k_nl_scc, k_it_scc, k_gz_scc, k_ar_scc, k_ne_scc, k_re_scc, k_sj_scc, k_st_scc, k_nx_scc, e]
theorem E_ukc {K : KT} {M : MT} {a : Nat} (h : isG a = true) (y : Nat → Int32) : va_up (E K M) (a + 1) (.inr (16, .inl y)) = E (k_skc K (va_up (k_kc K) a y)) M := by
  funext b
  by_cases hb : b = (a + 1)
  · subst hb
    rw [va_up_self, E_Gk h]
    simp only [k_rc_skc, k_cc_skc, k_kc_skc, k_vs_skc, k_sl_skc, k_d_skc, k_nu_skc, k_dn_skc, k_tl_skc, k_tr_skc, k_tc_skc, k_tv_skc, k_nl_skc, k_it_skc, k_gz_skc, k_ar_skc, k_ne_skc, k_re_skc, k_sj_skc, k_st_skc, k_nx_skc, va_up_self]
  · rw [va_up_ne _ _ hb]
    have hne : (b - 1) ≠ a := by have := isG_lo h; omega
    have e : va_up (k_kc K) a y (b - 1) = k_kc K (b - 1) := va_up_ne _ _ hne
    simp only [E, k_rc_skc, k_cc_skc, k_kc_skc, k_vs_skc, k_sl_skc, k_d_skc, k_nu_skc, k_dn_skc, k_tl_skc, k_tr_skc, k_tc_skc, k_tv_skc, k_nl_skc, k_it_skc, k_gz_skc, k_ar_skc, k_ne_skc, k_re_skc, k_sj_skc, k_st_skc, k_nx_skc, e]
theorem E_uvs {K : KT} {M : MT} {a : Nat} (h : isG a = true) (y : Nat → Int64) : va_up (E K M) (a + 2) (.inr (256, .inr (.inl y))) = E (k_svs K (va_up (k_vs K) a y)) M := by
  funext b
  by_cases hb : b = (a + 2)
  · subst hb
    rw [va_up_self, E_Gv h]
    simp only [k_rc_svs, k_cc_svs, k_kc_svs, k_vs_svs, k_sl_svs, k_d_svs, k_nu_svs, k_dn_svs, k_tl_svs, k_tr_svs, k_tc_svs, k_tv_svs, k_nl_svs, k_it_svs, k_gz_svs, k_ar_svs, k_ne_svs, k_re_svs, k_sj_svs, k_st_svs, k_nx_svs, va_up_self]
  · rw [va_up_ne _ _ hb]
    have hne : (b - 2) ≠ a := by have := isG_lo h; omega
    have e : va_up (k_vs K) a y (b - 2) = k_vs K (b - 2) := va_up_ne _ _ hne
    simp only [E, k_rc_svs, k_cc_svs, k_kc_svs, k_vs_svs, k_sl_svs, k_d_svs, k_nu_svs, k_dn_svs, k_tl_svs, k_tr_svs, k_tc_svs, k_tv_svs, k_nl_svs, k_it_svs, k_gz_svs, k_ar_svs, k_ne_svs, k_re_svs, k_sj_svs, k_st_svs, k_nx_svs, e]
theorem e_ck0 {α : Type} {K : KT} {M : MT} (k : Option α) : ck 4 (E K M) 0 k = k := pz_ck (by decide) (E_0 K M) k
theorem e_ck2 {α : Type} {K : KT} {M : MT} (k : Option α) : ck 3 (E K M) 2 k = k := pz_ck (by decide) (E_2 K M) k
theorem e_ck6 {α : Type} {K : KT} {M : MT} (k : Option α) : ck 0 (E K M) 6 k = k := pz_ck (by decide) (E_6 K M) k
theorem e_ck43 {α : Type} {K : KT} {M : MT} (k : Option α) : ck 5 (E K M) 43 k = k := pz_ck (by decide) (E_43 K M) k
theorem e_ckG {α : Type} {K : KT} {M : MT} {a : Nat} (h : isG a = true) (k : Option α) : ck 1 (E K M) a k = k := pz_ck (by have := isG_lo h; omega) (E_G h) k
theorem e_ckN {α : Type} {K : KT} {M : MT} {a : Nat} (h : a = 15 ∨ a = 17) (k : Option α) : ck 2 (E K M) a k = k := pz_ck (by unfold NC; omega) (E_N h) k
theorem e_gR0_0 (K : KT) (M : MT) : gR 4 (E K M) 0 0 = some 1 := pz_gR (by decide) (E_0 K M) rfl
theorem e_gR0_1 (K : KT) (M : MT) : gR 4 (E K M) 0 1 = some 2 := pz_gR (by decide) (E_0 K M) rfl
theorem e_gR0_2 (K : KT) (M : MT) : gR 4 (E K M) 0 2 = some 6 := pz_gR (by decide) (E_0 K M) rfl
theorem e_gR0_3 (K : KT) (M : MT) : gR 4 (E K M) 0 3 = some (k_d K) := pz_gR (by decide) (E_0 K M) rfl
theorem e_gR0_4 (K : KT) (M : MT) : gR 4 (E K M) 0 4 = some (k_nu K) := pz_gR (by decide) (E_0 K M) rfl
theorem e_gR0_5 (K : KT) (M : MT) : gR 4 (E K M) 0 5 = some (k_dn K) := pz_gR (by decide) (E_0 K M) rfl
theorem e_gR2_1 (K : KT) (M : MT) : gR 3 (E K M) 2 1 = some 3 := pz_gR (by decide) (E_2 K M) rfl
theorem e_gR2_2 (K : KT) (M : MT) : gR 3 (E K M) 2 2 = some 4 := pz_gR (by decide) (E_2 K M) rfl
theorem e_gR2_3 (K : KT) (M : MT) : gR 3 (E K M) 2 3 = some 5 := pz_gR (by decide) (E_2 K M) rfl
theorem e_gI2_0 (K : KT) (M : MT) : gI 3 (E K M) 2 0 = some (k_tl K) := pz_gI (by decide) (E_2 K M) rfl
theorem e_gR6_1 (K : KT) (M : MT) : gR 0 (E K M) 6 1 = some 7 := pz_gR (by decide) (E_6 K M) rfl
theorem e_gR6_2 (K : KT) (M : MT) : gR 0 (E K M) 6 2 = some 8 := pz_gR (by decide) (E_6 K M) rfl
theorem e_gR6_3 (K : KT) (M : MT) : gR 0 (E K M) 6 3 = some 9 := pz_gR (by decide) (E_6 K M) rfl
theorem e_gR6_4 (K : KT) (M : MT) : gR 0 (E K M) 6 4 = some (k_st K) := pz_gR (by decide) (E_6 K M) rfl
theorem e_gR6_5 (K : KT) (M : MT) : gR 0 (E K M) 6 5 = some (k_nx K) := pz_gR (by decide) (E_6 K M) rfl
theorem e_gI6_0 (K : KT) (M : MT) : gI 0 (E K M) 6 0 = some (k_gz K) := pz_gI (by decide) (E_6 K M) rfl
theorem e_gR43_0 (K : KT) (M : MT) : gR 5 (E K M) 43 0 = some 44 := pz_gR (by decide) (E_43 K M) rfl
theorem e_gR43_1 (K : KT) (M : MT) : gR 5 (E K M) 43 1 = some 45 := pz_gR (by decide) (E_43 K M) rfl
theorem e_gR43_2 (K : KT) (M : MT) : gR 5 (E K M) 43 2 = some 46 := pz_gR (by decide) (E_43 K M) rfl
theorem e_gR43_3 (K : KT) (M : MT) : gR 5 (E K M) 43 3 = some 47 := pz_gR (by decide) (E_43 K M) rfl
theorem e_gR43_4 (K : KT) (M : MT) : gR 5 (E K M) 43 4 = some 48 := pz_gR (by decide) (E_43 K M) rfl
theorem e_gR43_6 (K : KT) (M : MT) : gR 5 (E K M) 43 6 = some 49 := pz_gR (by decide) (E_43 K M) rfl
theorem e_gR43_7 (K : KT) (M : MT) : gR 5 (E K M) 43 7 = some 50 := pz_gR (by decide) (E_43 K M) rfl
theorem e_gR43_9 (K : KT) (M : MT) : gR 5 (E K M) 43 9 = some 51 := pz_gR (by decide) (E_43 K M) rfl
theorem e_gR43_10 (K : KT) (M : MT) : gR 5 (E K M) 43 10 = some 52 := pz_gR (by decide) (E_43 K M) rfl
theorem e_gR43_12 (K : KT) (M : MT) : gR 5 (E K M) 43 12 = some 53 := pz_gR (by decide) (E_43 K M) rfl
theorem e_gR43_13 (K : KT) (M : MT) : gR 5 (E K M) 43 13 = some 54 := pz_gR (by decide) (E_43 K M) rfl
theorem e_gI43_5 (K : KT) (M : MT) : gI 5 (E K M) 43 5 = some (m_mt M) := pz_gI (by decide) (E_43 K M) rfl
theorem e_gI43_8 (K : KT) (M : MT) : gI 5 (E K M) 43 8 = some (m_ml M) := pz_gI (by decide) (E_43 K M) rfl
theorem e_gI43_11 (K : KT) (M : MT) : gI 5 (E K M) 43 11 = some (m_ld M) := pz_gI (by decide) (E_43 K M) rfl
theorem e_pR0_3 (K : KT) (M : MT) (y : Nat) : pR 4 (E K M) 0 3 (some y) = some (E (k_sd K y) M) := by
  unfold pR
  rw [pz_pV _ (by decide) (E_0 K M) (by simp)]
  exact congrArg some (E_ud K M y)
theorem e_pR0_4 (K : KT) (M : MT) (y : Nat) : pR 4 (E K M) 0 4 (some y) = some (E (k_snu K y) M) := by
  unfold pR
  rw [pz_pV _ (by decide) (E_0 K M) (by simp)]
  exact congrArg some (E_unu K M y)
theorem e_pR0_5 (K : KT) (M : MT) (y : Nat) : pR 4 (E K M) 0 5 (some y) = some (E (k_sdn K y) M) := by
  unfold pR
  rw [pz_pV _ (by decide) (E_0 K M) (by simp)]
  exact congrArg some (E_udn K M y)
theorem e_pI2_0 (K : KT) (M : MT) (y : Int32) : pI 3 (E K M) 2 0 y = some (E (k_stl K y) M) := by
  unfold pI
  rw [pz_pV _ (by decide) (E_2 K M) (by simp)]
  exact congrArg some (E_utl K M y)
theorem e_pI6_0 (K : KT) (M : MT) (y : Int32) : pI 0 (E K M) 6 0 y = some (E (k_sgz K y) M) := by
  unfold pI
  rw [pz_pV _ (by decide) (E_6 K M) (by simp)]
  exact congrArg some (E_ugz K M y)
theorem e_pR6_4 (K : KT) (M : MT) (y : Nat) : pR 0 (E K M) 6 4 (some y) = some (E (k_sst K y) M) := by
  unfold pR
  rw [pz_pV _ (by decide) (E_6 K M) (by simp)]
  exact congrArg some (E_ust K M y)
theorem e_pR6_5 (K : KT) (M : MT) (y : Nat) : pR 0 (E K M) 6 5 (some y) = some (E (k_snx K y) M) := by
  unfold pR
  rw [pz_pV _ (by decide) (E_6 K M) (by simp)]
  exact congrArg some (E_unx K M y)
theorem e_pI43_5 (K : KT) (M : MT) (y : Int32) : pI 5 (E K M) 43 5 y = some (E K (m_smt M y)) := by
  unfold pI
  rw [pz_pV _ (by decide) (E_43 K M) (by simp)]
  exact congrArg some (E_umt K M y)
theorem e_pI43_8 (K : KT) (M : MT) (y : Int32) : pI 5 (E K M) 43 8 y = some (E K (m_sml M y)) := by
  unfold pI
  rw [pz_pV _ (by decide) (E_43 K M) (by simp)]
  exact congrArg some (E_uml K M y)
theorem e_pI43_11 (K : KT) (M : MT) (y : Int32) : pI 5 (E K M) 43 11 y = some (E K (m_sld M y)) := by
  unfold pI
  rw [pz_pV _ (by decide) (E_43 K M) (by simp)]
  exact congrArg some (E_uld K M y)
theorem e_a3 {K : KT} {M : MT} {i : Nat} (h : i < 64) : aI (E K M) 3 (nI i) = some (k_tr K i) := pz_aI (by decide) (E_3 K M) h (by decide)
theorem e_s3 {K : KT} {M : MT} {i : Nat} (h : i < 64) (x : Int32) : sI (E K M) 3 (nI i) x = some (E (k_str K (upd (k_tr K) i x)) M) := by
  rw [pz_sI x (by decide) (E_3 K M) h (by decide)]
  exact congrArg some (E_utr K M _)
theorem e_a4 {K : KT} {M : MT} {i : Nat} (h : i < 64) : aI (E K M) 4 (nI i) = some (k_tc K i) := pz_aI (by decide) (E_4 K M) h (by decide)
theorem e_s4 {K : KT} {M : MT} {i : Nat} (h : i < 64) (x : Int32) : sI (E K M) 4 (nI i) x = some (E (k_stc K (upd (k_tc K) i x)) M) := by
  rw [pz_sI x (by decide) (E_4 K M) h (by decide)]
  exact congrArg some (E_utc K M _)
theorem e_a5 {K : KT} {M : MT} {i : Nat} (h : i < 64) : aJ (E K M) 5 (nI i) = some (k_tv K i) := pz_aJ (by decide) (E_5 K M) h (by decide)
theorem e_s5 {K : KT} {M : MT} {i : Nat} (h : i < 64) (x : Int64) : sJ (E K M) 5 (nI i) x = some (E (k_stv K (vp_updL (k_tv K) i x)) M) := by
  rw [pz_sJ x (by decide) (E_5 K M) h (by decide)]
  exact congrArg some (E_utv K M _)
theorem e_a7 {K : KT} {M : MT} {i : Nat} (h : i < 16) : aI (E K M) 7 (nI i) = some (k_ar K i) := pz_aI (by decide) (E_7 K M) h (by decide)
theorem e_s7 {K : KT} {M : MT} {i : Nat} (h : i < 16) (x : Int32) : sI (E K M) 7 (nI i) x = some (E (k_sar K (upd (k_ar K) i x)) M) := by
  rw [pz_sI x (by decide) (E_7 K M) h (by decide)]
  exact congrArg some (E_uar K M _)
theorem e_a8 {K : KT} {M : MT} {i : Nat} (h : i < 16) : aI (E K M) 8 (nI i) = some (k_ne K i) := pz_aI (by decide) (E_8 K M) h (by decide)
theorem e_s8 {K : KT} {M : MT} {i : Nat} (h : i < 16) (x : Int32) : sI (E K M) 8 (nI i) x = some (E (k_sne K (upd (k_ne K) i x)) M) := by
  rw [pz_sI x (by decide) (E_8 K M) h (by decide)]
  exact congrArg some (E_une K M _)
theorem e_a9 {K : KT} {M : MT} {i : Nat} (h : i < 16) : aI (E K M) 9 (nI i) = some (k_re K i) := pz_aI (by decide) (E_9 K M) h (by decide)
theorem e_s9 {K : KT} {M : MT} {i : Nat} (h : i < 16) (x : Int32) : sI (E K M) 9 (nI i) x = some (E (k_sre K (upd (k_re K) i x)) M) := by
  rw [pz_sI x (by decide) (E_9 K M) h (by decide)]
  exact congrArg some (E_ure K M _)
theorem e_a44 {K : KT} {M : MT} {i : Nat} (h : i < 9) : aZ (E K M) 44 (nI i) = some (m_th M i) := pz_aZ (by decide) (E_44 K M) h (by decide)
theorem e_s44 {K : KT} {M : MT} {i : Nat} (h : i < 9) (x : Int32) : sZ (E K M) 44 (nI i) x = some (E K (m_sth M (upd (m_th M) i (vp_nar .boolean x)))) := by
  rw [pz_sZ x (by decide) (E_44 K M) h (by decide)]
  exact congrArg some (E_uth K M _)
theorem e_a45 {K : KT} {M : MT} {i : Nat} (h : i < 9) : aI (E K M) 45 (nI i) = some (m_hi M i) := pz_aI (by decide) (E_45 K M) h (by decide)
theorem e_s45 {K : KT} {M : MT} {i : Nat} (h : i < 9) (x : Int32) : sI (E K M) 45 (nI i) x = some (E K (m_shi M (upd (m_hi M) i x))) := by
  rw [pz_sI x (by decide) (E_45 K M) h (by decide)]
  exact congrArg some (E_uhi K M _)
theorem e_a46 {K : KT} {M : MT} {i : Nat} (h : i < 9) : aI (E K M) 46 (nI i) = some (m_wi M i) := pz_aI (by decide) (E_46 K M) h (by decide)
theorem e_s46 {K : KT} {M : MT} {i : Nat} (h : i < 9) (x : Int32) : sI (E K M) 46 (nI i) x = some (E K (m_swi M (upd (m_wi M) i x))) := by
  rw [pz_sI x (by decide) (E_46 K M) h (by decide)]
  exact congrArg some (E_uwi K M _)
theorem e_a47 {K : KT} {M : MT} {i : Nat} (h : i < 2304) : aZ (E K M) 47 (nI i) = some (m_kp M i) := pz_aZ (by decide) (E_47 K M) h (by decide)
theorem e_s47 {K : KT} {M : MT} {i : Nat} (h : i < 2304) (x : Int32) : sZ (E K M) 47 (nI i) x = some (E K (m_skp M (upd (m_kp M) i (vp_nar .boolean x)))) := by
  rw [pz_sZ x (by decide) (E_47 K M) h (by decide)]
  exact congrArg some (E_ukp K M _)
theorem e_a48 {K : KT} {M : MT} {i : Nat} (h : i < 2304) : aJ (E K M) 48 (nI i) = some (m_va M i) := pz_aJ (by decide) (E_48 K M) h (by decide)
theorem e_s48 {K : KT} {M : MT} {i : Nat} (h : i < 2304) (x : Int64) : sJ (E K M) 48 (nI i) x = some (E K (m_sva M (vp_updL (m_va M) i x))) := by
  rw [pz_sJ x (by decide) (E_48 K M) h (by decide)]
  exact congrArg some (E_uva K M _)
theorem e_a49 {K : KT} {M : MT} {i : Nat} (h : i < 64) : aI (E K M) 49 (nI i) = some (m_ta M i) := pz_aI (by decide) (E_49 K M) h (by decide)
theorem e_s49 {K : KT} {M : MT} {i : Nat} (h : i < 64) (x : Int32) : sI (E K M) 49 (nI i) x = some (E K (m_sta M (upd (m_ta M) i x))) := by
  rw [pz_sI x (by decide) (E_49 K M) h (by decide)]
  exact congrArg some (E_uta K M _)
theorem e_a50 {K : KT} {M : MT} {i : Nat} (h : i < 64) : aJ (E K M) 50 (nI i) = some (m_tw M i) := pz_aJ (by decide) (E_50 K M) h (by decide)
theorem e_s50 {K : KT} {M : MT} {i : Nat} (h : i < 64) (x : Int64) : sJ (E K M) 50 (nI i) x = some (E K (m_stw M (vp_updL (m_tw M) i x))) := by
  rw [pz_sJ x (by decide) (E_50 K M) h (by decide)]
  exact congrArg some (E_utw K M _)
theorem e_a51 {K : KT} {M : MT} {i : Nat} (h : i < 16) : aI (E K M) 51 (nI i) = some (m_lo M i) := pz_aI (by decide) (E_51 K M) h (by decide)
theorem e_s51 {K : KT} {M : MT} {i : Nat} (h : i < 16) (x : Int32) : sI (E K M) 51 (nI i) x = some (E K (m_slo M (upd (m_lo M) i x))) := by
  rw [pz_sI x (by decide) (E_51 K M) h (by decide)]
  exact congrArg some (E_ulo K M _)
theorem e_a52 {K : KT} {M : MT} {i : Nat} (h : i < 3000) : aJ (E K M) 52 (nI i) = some (m_ce M i) := pz_aJ (by decide) (E_52 K M) h (by decide)
theorem e_s52 {K : KT} {M : MT} {i : Nat} (h : i < 3000) (x : Int64) : sJ (E K M) 52 (nI i) x = some (E K (m_sce M (vp_updL (m_ce M) i x))) := by
  rw [pz_sJ x (by decide) (E_52 K M) h (by decide)]
  exact congrArg some (E_uce K M _)
theorem e_a53 {K : KT} {M : MT} {i : Nat} (h : i < 16) : aJ (E K M) 53 (nI i) = some (m_he M i) := pz_aJ (by decide) (E_53 K M) h (by decide)
theorem e_s53 {K : KT} {M : MT} {i : Nat} (h : i < 16) (x : Int64) : sJ (E K M) 53 (nI i) x = some (E K (m_she M (vp_updL (m_he M) i x))) := by
  rw [pz_sJ x (by decide) (E_53 K M) h (by decide)]
  exact congrArg some (E_uhe K M _)
theorem e_a54 {K : KT} {M : MT} {i : Nat} (h : i < 16) : aJ (E K M) 54 (nI i) = some (m_ny M i) := pz_aJ (by decide) (E_54 K M) h (by decide)
theorem e_s54 {K : KT} {M : MT} {i : Nat} (h : i < 16) (x : Int64) : sJ (E K M) 54 (nI i) x = some (E K (m_sny M (vp_updL (m_ny M) i x))) := by
  rw [pz_sJ x (by decide) (E_54 K M) h (by decide)]
  exact congrArg some (E_uny K M _)
theorem e_aL {K : KT} {M : MT} {a i : Nat} (ha : a = 10 ∨ a = 11) (h : i < 16) : aJ (E K M) a (nI i) = some (k_sj K a i) := pz_aJ (by unfold NC; omega) (E_L ha) h (by decide)
theorem e_sL {K : KT} {M : MT} {a i : Nat} (ha : a = 10 ∨ a = 11) (h : i < 16) (x : Int64) : sJ (E K M) a (nI i) x = some (E (k_ssj K (va_up (k_sj K) a (vp_updL (k_sj K a) i x))) M) := by
  rw [pz_sJ x (by unfold NC; omega) (E_L ha) h (by decide)]
  exact congrArg some (E_usj ha _)
theorem e_gIN {K : KT} {M : MT} {a : Nat} (ha : a = 15 ∨ a = 17) : gI 2 (E K M) a 0 = some (k_nl K a) := pz_gI (by unfold NC; omega) (E_N ha) rfl
theorem e_gRN {K : KT} {M : MT} {a : Nat} (ha : a = 15 ∨ a = 17) : gR 2 (E K M) a 1 = some (a + 1) := pz_gR (by unfold NC; omega) (E_N ha) rfl
theorem e_pIN {K : KT} {M : MT} {a : Nat} (ha : a = 15 ∨ a = 17) (y : Int32) : pI 2 (E K M) a 0 y = some (E (k_snl K (va_up (k_nl K) a y)) M) := by
  unfold pI
  rw [pz_pV _ (by unfold NC; omega) (E_N ha) (by simp)]
  exact congrArg some (E_unl ha _)
theorem e_aN {K : KT} {M : MT} {a i : Nat} (ha : a = 15 ∨ a = 17) (h : i < 16) : aI (E K M) (a + 1) (nI i) = some (k_it K a i) := pz_aI (by unfold NC; omega) (E_Ni ha) h (by decide)
theorem e_sN {K : KT} {M : MT} {a i : Nat} (ha : a = 15 ∨ a = 17) (h : i < 16) (x : Int32) : sI (E K M) (a + 1) (nI i) x = some (E (k_sit K (va_up (k_it K) a (upd (k_it K a) i x))) M) := by
  rw [pz_sI x (by unfold NC; omega) (E_Ni ha) h (by decide)]
  exact congrArg some (E_uit ha _)
theorem e_gIrc {K : KT} {M : MT} {a : Nat} (ha : isG a = true) : gI 1 (E K M) a 0 = some (k_rc K a) := pz_gI (by have := isG_lo ha; omega) (E_G ha) rfl
theorem e_gIcc {K : KT} {M : MT} {a : Nat} (ha : isG a = true) : gI 1 (E K M) a 1 = some (k_cc K a) := pz_gI (by have := isG_lo ha; omega) (E_G ha) rfl
theorem e_gRkc {K : KT} {M : MT} {a : Nat} (ha : isG a = true) : gR 1 (E K M) a 2 = some (a + 1) := pz_gR (by have := isG_lo ha; omega) (E_G ha) rfl
theorem e_gRvs {K : KT} {M : MT} {a : Nat} (ha : isG a = true) : gR 1 (E K M) a 3 = some (a + 2) := pz_gR (by have := isG_lo ha; omega) (E_G ha) rfl
theorem e_pIrc {K : KT} {M : MT} {a : Nat} (ha : isG a = true) (y : Int32) : pI 1 (E K M) a 0 y = some (E (k_src K (va_up (k_rc K) a y)) M) := by
  unfold pI
  rw [pz_pV _ (by have := isG_lo ha; omega) (E_G ha) (by simp)]
  exact congrArg some (E_urc ha _)
theorem e_pIcc {K : KT} {M : MT} {a : Nat} (ha : isG a = true) (y : Int32) : pI 1 (E K M) a 1 y = some (E (k_scc K (va_up (k_cc K) a y)) M) := by
  unfold pI
  rw [pz_pV _ (by have := isG_lo ha; omega) (E_G ha) (by simp)]
  exact congrArg some (E_ucc ha _)
theorem e_aK {K : KT} {M : MT} {a i : Nat} (ha : isG a = true) (h : i < 16) : aI (E K M) (a + 1) (nI i) = some (k_kc K a i) := pz_aI (by have := isG_lo ha; omega) (E_Gk ha) h (by decide)
theorem e_sK {K : KT} {M : MT} {a i : Nat} (ha : isG a = true) (h : i < 16) (x : Int32) : sI (E K M) (a + 1) (nI i) x = some (E (k_skc K (va_up (k_kc K) a (upd (k_kc K a) i x))) M) := by
  rw [pz_sI x (by have := isG_lo ha; omega) (E_Gk ha) h (by decide)]
  exact congrArg some (E_ukc ha _)
theorem e_aV {K : KT} {M : MT} {a i : Nat} (ha : isG a = true) (h : i < 256) : aJ (E K M) (a + 2) (nI i) = some (k_vs K a i) := pz_aJ (by have := isG_lo ha; omega) (E_Gv ha) h (by decide)
theorem e_sV {K : KT} {M : MT} {a i : Nat} (ha : isG a = true) (h : i < 256) (x : Int64) : sJ (E K M) (a + 2) (nI i) x = some (E (k_svs K (va_up (k_vs K) a (vp_updL (k_vs K a) i x))) M) := by
  rw [pz_sJ x (by have := isG_lo ha; omega) (E_Gv ha) h (by decide)]
  exact congrArg some (E_uvs ha _)
theorem e_aG {K : KT} {M : MT} {i : Nat} (h : i < 8) : aG (E K M) 1 (nI i) = some (k_sl K i) := pz_aG (by decide) (E_1 K M) h (by decide)
theorem e_sG {K : KT} {M : MT} {i b : Nat} (hb : isG b = true) (h : i < 8) : sG (E K M) 1 (nI i) b = some (E (k_ssl K (va_up (k_sl K) i (some b))) M) := by
  rw [pz_sG (by decide) (E_1 K M) (by have := isG_lo hb; omega) (E_G hb) h (by decide)]
  exact congrArg some (E_usl K M _)
theorem e_cpK {K : KT} {M : MT} {a b : Nat} (ha : isG a = true) (hb : isG b = true) : cpI (E K M) (a + 1) 0 (b + 1) 0 16 = some (E (k_skc K (va_up (k_kc K) b (va_cpy (k_kc K a) (k_kc K b) 0 0 16))) M) := by
  have h1 : a + 1 < NC ∧ b + 1 < NC := ⟨by have := isG_lo ha; omega, by have := isG_lo hb; omega⟩
  have c16 : (16 : Int32).toNatClampNeg = 16 := by decide
  have c0 : (0 : Int32).toNatClampNeg = 0 := by decide
  have n0 : ¬ ((0 : Int32) < 0) := by decide
  have n16 : ¬ ((16 : Int32) < 0) := by decide
  simp only [cpI, if_pos h1, E_Gk ha, E_Gk hb, c16, c0, n0, n16, false_or]
  rw [if_neg (by omega)]
  exact congrArg some (E_ukc hb _)
theorem e_cpV {K : KT} {M : MT} {a b : Nat} (ha : isG a = true) (hb : isG b = true) : cpJ (E K M) (a + 2) 0 (b + 2) 0 256 = some (E (k_svs K (va_up (k_vs K) b (va_cpy (k_vs K a) (k_vs K b) 0 0 256))) M) := by
  have h1 : a + 2 < NC ∧ b + 2 < NC := ⟨by have := isG_lo ha; omega, by have := isG_lo hb; omega⟩
  have c16 : (256 : Int32).toNatClampNeg = 256 := by decide
  have c0 : (0 : Int32).toNatClampNeg = 0 := by decide
  have n0 : ¬ ((0 : Int32) < 0) := by decide
  have n16 : ¬ ((256 : Int32) < 0) := by decide
  simp only [cpJ, if_pos h1, E_Gv ha, E_Gv hb, c16, c0, n0, n16, false_or]
  rw [if_neg (by omega)]
  exact congrArg some (E_uvs hb _)
