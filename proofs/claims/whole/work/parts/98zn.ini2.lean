/-! PURE 87: what stands at the start -/
theorem cl_1 : (nI 1).toNatClampNeg = 1 := by decide
theorem cb_1 (r : Option Res) : bI (¬ (nI 1 < 0 ∨ 67108864 < 1)) r = r := bI_t (by decide) r
theorem sx105 {p : Nat} (h1 : p < 51) : hget G105_ p = hget G104_ p := hget_push (h := G104_) (o := oO 12 [aI 0, aN, aI 0, aN, aN, aI 0, aN, aI 0, aI 0, aI 0, aI 0, aN, aI 0, aN, aN, aN, aI 0, aN, aN, aN, aI 0, aI 0, aI 0, aN, aN, aI 0, aN, aI 0, aN, aN, aI 0, aN, aI 0, aN, aN]) (by rw [gf237]; exact h1)
theorem sx106 {p : Nat} (h1 : p < 52) : hget G106_ p = hget G105_ p := hget_push (h := G105_) (o := oI 0 120 (fun _ => 0)) (by rw [gf239]; exact h1)
theorem sx107 {p : Nat} (h2 : ¬ p = 51) : hget G107_ p = hget G106_ p := hget_ne (h := G106_) (o := oO 12 [aI 0, aD 52, aI 0, aN, aN, aI 0, aN, aI 0, aI 0, aI 0, aI 0, aN, aI 0, aN, aN, aN, aI 0, aN, aN, aN, aI 0, aI 0, aI 0, aN, aN, aI 0, aN, aI 0, aN, aN, aI 0, aN, aI 0, aN, aN]) h2
theorem sx108 {p : Nat} (h1 : p < 53) : hget G108_ p = hget G107_ p := hget_push (h := G107_) (o := oI 0 301 (fun _ => 0)) (by rw [gf245]; exact h1)
theorem sx109 {p : Nat} (h2 : ¬ p = 51) : hget G109_ p = hget G108_ p := hget_ne (h := G108_) (o := oO 12 [aI 0, aD 52, aI 0, aD 53, aN, aI 0, aN, aI 0, aI 0, aI 0, aI 0, aN, aI 0, aN, aN, aN, aI 0, aN, aN, aN, aI 0, aI 0, aI 0, aN, aN, aI 0, aN, aI 0, aN, aN, aI 0, aN, aI 0, aN, aN]) h2
theorem sx110 {p : Nat} (h1 : p < 54) : hget G110_ p = hget G109_ p := hget_push (h := G109_) (o := oI 0 2408 (fun _ => 0)) (by rw [gf251]; exact h1)
theorem sx111 {p : Nat} (h2 : ¬ p = 51) : hget G111_ p = hget G110_ p := hget_ne (h := G110_) (o := oO 12 [aI 0, aD 52, aI 0, aD 53, aD 54, aI 0, aN, aI 0, aI 0, aI 0, aI 0, aN, aI 0, aN, aN, aN, aI 0, aN, aN, aN, aI 0, aI 0, aI 0, aN, aN, aI 0, aN, aI 0, aN, aN, aI 0, aN, aI 0, aN, aN]) h2
theorem sx112 {p : Nat} (h1 : p < 55) : hget G112_ p = hget G111_ p := hget_push (h := G111_) (o := oI 1 120 (fun _ => 0)) (by rw [gf257]; exact h1)
theorem sx113 {p : Nat} (h2 : ¬ p = 51) : hget G113_ p = hget G112_ p := hget_ne (h := G112_) (o := oO 12 [aI 0, aD 52, aI 0, aD 53, aD 54, aI 0, aD 55, aI 0, aI 0, aI 0, aI 0, aN, aI 0, aN, aN, aN, aI 0, aN, aN, aN, aI 0, aI 0, aI 0, aN, aN, aI 0, aN, aI 0, aN, aN, aI 0, aN, aI 0, aN, aN]) h2
theorem sx114 {p : Nat} (h1 : p < 56) : hget G114_ p = hget G113_ p := hget_push (h := G113_) (o := oI 0 244 (fun _ => 0)) (by rw [gf263]; exact h1)
theorem sx115 {p : Nat} (h2 : ¬ p = 51) : hget G115_ p = hget G114_ p := hget_ne (h := G114_) (o := oO 12 [aI 0, aD 52, aI 0, aD 53, aD 54, aI 0, aD 55, aI 0, aI 0, aI 0, aI 0, aD 56, aI 0, aN, aN, aN, aI 0, aN, aN, aN, aI 0, aI 0, aI 0, aN, aN, aI 0, aN, aI 0, aN, aN, aI 0, aN, aI 0, aN, aN]) h2
theorem sx116 {p : Nat} (h1 : p < 57) : hget G116_ p = hget G115_ p := hget_push (h := G115_) (o := oI 3 62 (fun _ => 0)) (by rw [gf269]; exact h1)
theorem sx117 {p : Nat} (h2 : ¬ p = 51) : hget G117_ p = hget G116_ p := hget_ne (h := G116_) (o := oO 12 [aI 0, aD 52, aI 0, aD 53, aD 54, aI 0, aD 55, aI 0, aI 0, aI 0, aI 0, aD 56, aI 0, aD 57, aN, aN, aI 0, aN, aN, aN, aI 0, aI 0, aI 0, aN, aN, aI 0, aN, aI 0, aN, aN, aI 0, aN, aI 0, aN, aN]) h2
theorem sx118 {p : Nat} (h1 : p < 58) : hget G118_ p = hget G117_ p := hget_push (h := G117_) (o := oI 0 62 (fun _ => 0)) (by rw [gf275]; exact h1)
theorem sx119 {p : Nat} (h2 : ¬ p = 51) : hget G119_ p = hget G118_ p := hget_ne (h := G118_) (o := oO 12 [aI 0, aD 52, aI 0, aD 53, aD 54, aI 0, aD 55, aI 0, aI 0, aI 0, aI 0, aD 56, aI 0, aD 57, aD 58, aN, aI 0, aN, aN, aN, aI 0, aI 0, aI 0, aN, aN, aI 0, aN, aI 0, aN, aN, aI 0, aN, aI 0, aN, aN]) h2
theorem sx120 {p : Nat} (h1 : p < 59) : hget G120_ p = hget G119_ p := hget_push (h := G119_) (o := oI 1 1200 (fun _ => 0)) (by rw [gf281]; exact h1)
theorem sx121 {p : Nat} (h2 : ¬ p = 51) : hget G121_ p = hget G120_ p := hget_ne (h := G120_) (o := oO 12 [aI 0, aD 52, aI 0, aD 53, aD 54, aI 0, aD 55, aI 0, aI 0, aI 0, aI 0, aD 56, aI 0, aD 57, aD 58, aD 59, aI 0, aN, aN, aN, aI 0, aI 0, aI 0, aN, aN, aI 0, aN, aI 0, aN, aN, aI 0, aN, aI 0, aN, aN]) h2
theorem sx122 {p : Nat} (h1 : p < 60) : hget G122_ p = hget G121_ p := hget_push (h := G121_) (o := oI 0 24 (fun _ => 0)) (by rw [gf287]; exact h1)
theorem sx123 {p : Nat} (h2 : ¬ p = 51) : hget G123_ p = hget G122_ p := hget_ne (h := G122_) (o := oO 12 [aI 0, aD 52, aI 0, aD 53, aD 54, aI 0, aD 55, aI 0, aI 0, aI 0, aI 0, aD 56, aI 0, aD 57, aD 58, aD 59, aI 0, aD 60, aN, aN, aI 0, aI 0, aI 0, aN, aN, aI 0, aN, aI 0, aN, aN, aI 0, aN, aI 0, aN, aN]) h2
theorem sx124 {p : Nat} (h1 : p < 61) : hget G124_ p = hget G123_ p := hget_push (h := G123_) (o := oI 0 24 (fun _ => 0)) (by rw [gf293]; exact h1)
theorem sx125 {p : Nat} (h2 : ¬ p = 51) : hget G125_ p = hget G124_ p := hget_ne (h := G124_) (o := oO 12 [aI 0, aD 52, aI 0, aD 53, aD 54, aI 0, aD 55, aI 0, aI 0, aI 0, aI 0, aD 56, aI 0, aD 57, aD 58, aD 59, aI 0, aD 60, aD 61, aN, aI 0, aI 0, aI 0, aN, aN, aI 0, aN, aI 0, aN, aN, aI 0, aN, aI 0, aN, aN]) h2
theorem sx126 {p : Nat} (h1 : p < 62) : hget G126_ p = hget G125_ p := hget_push (h := G125_) (o := oI 0 2000 (fun _ => 0)) (by rw [gf299]; exact h1)
theorem sx127 {p : Nat} (h2 : ¬ p = 51) : hget G127_ p = hget G126_ p := hget_ne (h := G126_) (o := oO 12 [aI 0, aD 52, aI 0, aD 53, aD 54, aI 0, aD 55, aI 0, aI 0, aI 0, aI 0, aD 56, aI 0, aD 57, aD 58, aD 59, aI 0, aD 60, aD 61, aD 62, aI 0, aI 0, aI 0, aN, aN, aI 0, aN, aI 0, aN, aN, aI 0, aN, aI 0, aN, aN]) h2
theorem sx128 {p : Nat} (h1 : p < 63) : hget G128_ p = hget G127_ p := hget_push (h := G127_) (o := oI 0 24 (fun _ => 0)) (by rw [gf305]; exact h1)
theorem sx129 {p : Nat} (h2 : ¬ p = 51) : hget G129_ p = hget G128_ p := hget_ne (h := G128_) (o := oO 12 [aI 0, aD 52, aI 0, aD 53, aD 54, aI 0, aD 55, aI 0, aI 0, aI 0, aI 0, aD 56, aI 0, aD 57, aD 58, aD 59, aI 0, aD 60, aD 61, aD 62, aI 0, aI 0, aI 0, aD 63, aN, aI 0, aN, aI 0, aN, aN, aI 0, aN, aI 0, aN, aN]) h2
theorem sx130 {p : Nat} (h1 : p < 64) : hget G130_ p = hget G129_ p := hget_push (h := G129_) (o := oI 0 2000 (fun _ => 0)) (by rw [gf311]; exact h1)
theorem sx131 {p : Nat} (h2 : ¬ p = 51) : hget G131_ p = hget G130_ p := hget_ne (h := G130_) (o := oO 12 [aI 0, aD 52, aI 0, aD 53, aD 54, aI 0, aD 55, aI 0, aI 0, aI 0, aI 0, aD 56, aI 0, aD 57, aD 58, aD 59, aI 0, aD 60, aD 61, aD 62, aI 0, aI 0, aI 0, aD 63, aD 64, aI 0, aN, aI 0, aN, aN, aI 0, aN, aI 0, aN, aN]) h2
theorem sx132 {p : Nat} (h1 : p < 65) : hget G132_ p = hget G131_ p := hget_push (h := G131_) (o := oI 0 24 (fun _ => 0)) (by rw [gf317]; exact h1)
theorem sx133 {p : Nat} (h2 : ¬ p = 51) : hget G133_ p = hget G132_ p := hget_ne (h := G132_) (o := oO 12 [aI 0, aD 52, aI 0, aD 53, aD 54, aI 0, aD 55, aI 0, aI 0, aI 0, aI 0, aD 56, aI 0, aD 57, aD 58, aD 59, aI 0, aD 60, aD 61, aD 62, aI 0, aI 0, aI 0, aD 63, aD 64, aI 0, aD 65, aI 0, aN, aN, aI 0, aN, aI 0, aN, aN]) h2
theorem sx134 {p : Nat} (h1 : p < 66) : hget G134_ p = hget G133_ p := hget_push (h := G133_) (o := oI 0 16 (fun _ => 0)) (by rw [gf323]; exact h1)
theorem sx135 {p : Nat} (h2 : ¬ p = 51) : hget G135_ p = hget G134_ p := hget_ne (h := G134_) (o := oO 12 [aI 0, aD 52, aI 0, aD 53, aD 54, aI 0, aD 55, aI 0, aI 0, aI 0, aI 0, aD 56, aI 0, aD 57, aD 58, aD 59, aI 0, aD 60, aD 61, aD 62, aI 0, aI 0, aI 0, aD 63, aD 64, aI 0, aD 65, aI 0, aD 66, aN, aI 0, aN, aI 0, aN, aN]) h2
theorem sx136 {p : Nat} (h1 : p < 67) : hget G136_ p = hget G135_ p := hget_push (h := G135_) (o := oI 0 2000 (fun _ => 0)) (by rw [gf329]; exact h1)
theorem sx137 {p : Nat} (h2 : ¬ p = 51) : hget G137_ p = hget G136_ p := hget_ne (h := G136_) (o := oO 12 [aI 0, aD 52, aI 0, aD 53, aD 54, aI 0, aD 55, aI 0, aI 0, aI 0, aI 0, aD 56, aI 0, aD 57, aD 58, aD 59, aI 0, aD 60, aD 61, aD 62, aI 0, aI 0, aI 0, aD 63, aD 64, aI 0, aD 65, aI 0, aD 66, aD 67, aI 0, aN, aI 0, aN, aN]) h2
theorem sx138 {p : Nat} (h1 : p < 68) : hget G138_ p = hget G137_ p := hget_push (h := G137_) (o := oI 0 120 (fun _ => 0)) (by rw [gf335]; exact h1)
theorem sx139 {p : Nat} (h2 : ¬ p = 51) : hget G139_ p = hget G138_ p := hget_ne (h := G138_) (o := oO 12 [aI 0, aD 52, aI 0, aD 53, aD 54, aI 0, aD 55, aI 0, aI 0, aI 0, aI 0, aD 56, aI 0, aD 57, aD 58, aD 59, aI 0, aD 60, aD 61, aD 62, aI 0, aI 0, aI 0, aD 63, aD 64, aI 0, aD 65, aI 0, aD 66, aD 67, aI 0, aD 68, aI 0, aN, aN]) h2
theorem sx140 {p : Nat} (h1 : p < 69) : hget G140_ p = hget G139_ p := hget_push (h := G139_) (o := oI 0 301 (fun _ => 0)) (by rw [gf341]; exact h1)
theorem sx141 {p : Nat} (h2 : ¬ p = 51) : hget G141_ p = hget G140_ p := hget_ne (h := G140_) (o := oO 12 [aI 0, aD 52, aI 0, aD 53, aD 54, aI 0, aD 55, aI 0, aI 0, aI 0, aI 0, aD 56, aI 0, aD 57, aD 58, aD 59, aI 0, aD 60, aD 61, aD 62, aI 0, aI 0, aI 0, aD 63, aD 64, aI 0, aD 65, aI 0, aD 66, aD 67, aI 0, aD 68, aI 0, aD 69, aN]) h2
theorem sx142 {p : Nat} (h1 : p < 70) : hget G142_ p = hget G141_ p := hget_push (h := G141_) (o := oI 0 24 (fun _ => 0)) (by rw [gf347]; exact h1)
theorem sx143 {p : Nat} (h2 : ¬ p = 51) : hget G143_ p = hget G142_ p := hget_ne (h := G142_) (o := oO 12 [aI 0, aD 52, aI 0, aD 53, aD 54, aI 0, aD 55, aI 0, aI 0, aI 0, aI 0, aD 56, aI 0, aD 57, aD 58, aD 59, aI 0, aD 60, aD 61, aD 62, aI 0, aI 0, aI 0, aD 63, aD 64, aI 0, aD 65, aI 0, aD 66, aD 67, aI 0, aD 68, aI 0, aD 69, aD 70]) h2
theorem sx144 {p : Nat} (h1 : p < 71) : hget G144_ p = hget G143_ p := hget_push (h := G143_) (o := oL 1 (fun _ => 0)) (by rw [gf353]; exact h1)
theorem sx145 {p : Nat} (h1 : p < 72) : hget G145_ p = hget G144_ p := hget_push (h := G144_) (o := oE 1 (fun _ => 0)) (by rw [gf356]; exact h1)
theorem tx145 {p : Nat} (_ : p < 73) (_ : ¬ p = 51) : hget G145_ p = hget G145_ p := rfl
theorem tx144 {p : Nat} (h1 : p < 72) (h2 : ¬ p = 51) : hget G145_ p = hget G144_ p := (tx145 (by omega) h2).trans (sx145 h1)
theorem tx143 {p : Nat} (h1 : p < 71) (h2 : ¬ p = 51) : hget G145_ p = hget G143_ p := (tx144 (by omega) h2).trans (sx144 h1)
theorem tx142 {p : Nat} (h1 : p < 71) (h2 : ¬ p = 51) : hget G145_ p = hget G142_ p := (tx143 (by omega) h2).trans (sx143 h2)
theorem tx141 {p : Nat} (h1 : p < 70) (h2 : ¬ p = 51) : hget G145_ p = hget G141_ p := (tx142 (by omega) h2).trans (sx142 h1)
theorem tx140 {p : Nat} (h1 : p < 70) (h2 : ¬ p = 51) : hget G145_ p = hget G140_ p := (tx141 (by omega) h2).trans (sx141 h2)
theorem tx139 {p : Nat} (h1 : p < 69) (h2 : ¬ p = 51) : hget G145_ p = hget G139_ p := (tx140 (by omega) h2).trans (sx140 h1)
theorem tx138 {p : Nat} (h1 : p < 69) (h2 : ¬ p = 51) : hget G145_ p = hget G138_ p := (tx139 (by omega) h2).trans (sx139 h2)
theorem tx137 {p : Nat} (h1 : p < 68) (h2 : ¬ p = 51) : hget G145_ p = hget G137_ p := (tx138 (by omega) h2).trans (sx138 h1)
theorem tx136 {p : Nat} (h1 : p < 68) (h2 : ¬ p = 51) : hget G145_ p = hget G136_ p := (tx137 (by omega) h2).trans (sx137 h2)
theorem tx135 {p : Nat} (h1 : p < 67) (h2 : ¬ p = 51) : hget G145_ p = hget G135_ p := (tx136 (by omega) h2).trans (sx136 h1)
theorem tx134 {p : Nat} (h1 : p < 67) (h2 : ¬ p = 51) : hget G145_ p = hget G134_ p := (tx135 (by omega) h2).trans (sx135 h2)
theorem tx133 {p : Nat} (h1 : p < 66) (h2 : ¬ p = 51) : hget G145_ p = hget G133_ p := (tx134 (by omega) h2).trans (sx134 h1)
theorem tx132 {p : Nat} (h1 : p < 66) (h2 : ¬ p = 51) : hget G145_ p = hget G132_ p := (tx133 (by omega) h2).trans (sx133 h2)
theorem tx131 {p : Nat} (h1 : p < 65) (h2 : ¬ p = 51) : hget G145_ p = hget G131_ p := (tx132 (by omega) h2).trans (sx132 h1)
theorem tx130 {p : Nat} (h1 : p < 65) (h2 : ¬ p = 51) : hget G145_ p = hget G130_ p := (tx131 (by omega) h2).trans (sx131 h2)
theorem tx129 {p : Nat} (h1 : p < 64) (h2 : ¬ p = 51) : hget G145_ p = hget G129_ p := (tx130 (by omega) h2).trans (sx130 h1)
theorem tx128 {p : Nat} (h1 : p < 64) (h2 : ¬ p = 51) : hget G145_ p = hget G128_ p := (tx129 (by omega) h2).trans (sx129 h2)
theorem tx127 {p : Nat} (h1 : p < 63) (h2 : ¬ p = 51) : hget G145_ p = hget G127_ p := (tx128 (by omega) h2).trans (sx128 h1)
theorem tx126 {p : Nat} (h1 : p < 63) (h2 : ¬ p = 51) : hget G145_ p = hget G126_ p := (tx127 (by omega) h2).trans (sx127 h2)
theorem tx125 {p : Nat} (h1 : p < 62) (h2 : ¬ p = 51) : hget G145_ p = hget G125_ p := (tx126 (by omega) h2).trans (sx126 h1)
theorem tx124 {p : Nat} (h1 : p < 62) (h2 : ¬ p = 51) : hget G145_ p = hget G124_ p := (tx125 (by omega) h2).trans (sx125 h2)
theorem tx123 {p : Nat} (h1 : p < 61) (h2 : ¬ p = 51) : hget G145_ p = hget G123_ p := (tx124 (by omega) h2).trans (sx124 h1)
theorem tx122 {p : Nat} (h1 : p < 61) (h2 : ¬ p = 51) : hget G145_ p = hget G122_ p := (tx123 (by omega) h2).trans (sx123 h2)
theorem tx121 {p : Nat} (h1 : p < 60) (h2 : ¬ p = 51) : hget G145_ p = hget G121_ p := (tx122 (by omega) h2).trans (sx122 h1)
theorem tx120 {p : Nat} (h1 : p < 60) (h2 : ¬ p = 51) : hget G145_ p = hget G120_ p := (tx121 (by omega) h2).trans (sx121 h2)
theorem tx119 {p : Nat} (h1 : p < 59) (h2 : ¬ p = 51) : hget G145_ p = hget G119_ p := (tx120 (by omega) h2).trans (sx120 h1)
theorem tx118 {p : Nat} (h1 : p < 59) (h2 : ¬ p = 51) : hget G145_ p = hget G118_ p := (tx119 (by omega) h2).trans (sx119 h2)
theorem tx117 {p : Nat} (h1 : p < 58) (h2 : ¬ p = 51) : hget G145_ p = hget G117_ p := (tx118 (by omega) h2).trans (sx118 h1)
theorem tx116 {p : Nat} (h1 : p < 58) (h2 : ¬ p = 51) : hget G145_ p = hget G116_ p := (tx117 (by omega) h2).trans (sx117 h2)
theorem tx115 {p : Nat} (h1 : p < 57) (h2 : ¬ p = 51) : hget G145_ p = hget G115_ p := (tx116 (by omega) h2).trans (sx116 h1)
theorem tx114 {p : Nat} (h1 : p < 57) (h2 : ¬ p = 51) : hget G145_ p = hget G114_ p := (tx115 (by omega) h2).trans (sx115 h2)
theorem tx113 {p : Nat} (h1 : p < 56) (h2 : ¬ p = 51) : hget G145_ p = hget G113_ p := (tx114 (by omega) h2).trans (sx114 h1)
theorem tx112 {p : Nat} (h1 : p < 56) (h2 : ¬ p = 51) : hget G145_ p = hget G112_ p := (tx113 (by omega) h2).trans (sx113 h2)
theorem tx111 {p : Nat} (h1 : p < 55) (h2 : ¬ p = 51) : hget G145_ p = hget G111_ p := (tx112 (by omega) h2).trans (sx112 h1)
theorem tx110 {p : Nat} (h1 : p < 55) (h2 : ¬ p = 51) : hget G145_ p = hget G110_ p := (tx111 (by omega) h2).trans (sx111 h2)
theorem tx109 {p : Nat} (h1 : p < 54) (h2 : ¬ p = 51) : hget G145_ p = hget G109_ p := (tx110 (by omega) h2).trans (sx110 h1)
theorem tx108 {p : Nat} (h1 : p < 54) (h2 : ¬ p = 51) : hget G145_ p = hget G108_ p := (tx109 (by omega) h2).trans (sx109 h2)
theorem tx107 {p : Nat} (h1 : p < 53) (h2 : ¬ p = 51) : hget G145_ p = hget G107_ p := (tx108 (by omega) h2).trans (sx108 h1)
theorem tx106 {p : Nat} (h1 : p < 53) (h2 : ¬ p = 51) : hget G145_ p = hget G106_ p := (tx107 (by omega) h2).trans (sx107 h2)
theorem tx105 {p : Nat} (h1 : p < 52) (h2 : ¬ p = 51) : hget G145_ p = hget G105_ p := (tx106 (by omega) h2).trans (sx106 h1)
theorem tx104 {p : Nat} (h1 : p < 51) (h2 : ¬ p = 51) : hget G145_ p = hget G104_ p := (tx105 (by omega) h2).trans (sx105 h1)
theorem rw52 : hget G145_ 52 = some (oI 0 120 (fun _ => 0)) := (tx106 (by omega) (by omega)).trans (by
  have z := hget_new (h := G105_) (o := oI 0 120 (fun _ => 0))
  rw [gf239] at z
  exact z)
theorem rw53 : hget G145_ 53 = some (oI 0 301 (fun _ => 0)) := (tx108 (by omega) (by omega)).trans (by
  have z := hget_new (h := G107_) (o := oI 0 301 (fun _ => 0))
  rw [gf245] at z
  exact z)
theorem rw54 : hget G145_ 54 = some (oI 0 2408 (fun _ => 0)) := (tx110 (by omega) (by omega)).trans (by
  have z := hget_new (h := G109_) (o := oI 0 2408 (fun _ => 0))
  rw [gf251] at z
  exact z)
theorem rw55 : hget G145_ 55 = some (oI 1 120 (fun _ => 0)) := (tx112 (by omega) (by omega)).trans (by
  have z := hget_new (h := G111_) (o := oI 1 120 (fun _ => 0))
  rw [gf257] at z
  exact z)
theorem rw56 : hget G145_ 56 = some (oI 0 244 (fun _ => 0)) := (tx114 (by omega) (by omega)).trans (by
  have z := hget_new (h := G113_) (o := oI 0 244 (fun _ => 0))
  rw [gf263] at z
  exact z)
theorem rw57 : hget G145_ 57 = some (oI 3 62 (fun _ => 0)) := (tx116 (by omega) (by omega)).trans (by
  have z := hget_new (h := G115_) (o := oI 3 62 (fun _ => 0))
  rw [gf269] at z
  exact z)
theorem rw58 : hget G145_ 58 = some (oI 0 62 (fun _ => 0)) := (tx118 (by omega) (by omega)).trans (by
  have z := hget_new (h := G117_) (o := oI 0 62 (fun _ => 0))
  rw [gf275] at z
  exact z)
theorem rw59 : hget G145_ 59 = some (oI 1 1200 (fun _ => 0)) := (tx120 (by omega) (by omega)).trans (by
  have z := hget_new (h := G119_) (o := oI 1 1200 (fun _ => 0))
  rw [gf281] at z
  exact z)
theorem rw60 : hget G145_ 60 = some (oI 0 24 (fun _ => 0)) := (tx122 (by omega) (by omega)).trans (by
  have z := hget_new (h := G121_) (o := oI 0 24 (fun _ => 0))
  rw [gf287] at z
  exact z)
theorem rw61 : hget G145_ 61 = some (oI 0 24 (fun _ => 0)) := (tx124 (by omega) (by omega)).trans (by
  have z := hget_new (h := G123_) (o := oI 0 24 (fun _ => 0))
  rw [gf293] at z
  exact z)
theorem rw62 : hget G145_ 62 = some (oI 0 2000 (fun _ => 0)) := (tx126 (by omega) (by omega)).trans (by
  have z := hget_new (h := G125_) (o := oI 0 2000 (fun _ => 0))
  rw [gf299] at z
  exact z)
theorem rw63 : hget G145_ 63 = some (oI 0 24 (fun _ => 0)) := (tx128 (by omega) (by omega)).trans (by
  have z := hget_new (h := G127_) (o := oI 0 24 (fun _ => 0))
  rw [gf305] at z
  exact z)
theorem rw64 : hget G145_ 64 = some (oI 0 2000 (fun _ => 0)) := (tx130 (by omega) (by omega)).trans (by
  have z := hget_new (h := G129_) (o := oI 0 2000 (fun _ => 0))
  rw [gf311] at z
  exact z)
theorem rw65 : hget G145_ 65 = some (oI 0 24 (fun _ => 0)) := (tx132 (by omega) (by omega)).trans (by
  have z := hget_new (h := G131_) (o := oI 0 24 (fun _ => 0))
  rw [gf317] at z
  exact z)
theorem rw66 : hget G145_ 66 = some (oI 0 16 (fun _ => 0)) := (tx134 (by omega) (by omega)).trans (by
  have z := hget_new (h := G133_) (o := oI 0 16 (fun _ => 0))
  rw [gf323] at z
  exact z)
theorem rw67 : hget G145_ 67 = some (oI 0 2000 (fun _ => 0)) := (tx136 (by omega) (by omega)).trans (by
  have z := hget_new (h := G135_) (o := oI 0 2000 (fun _ => 0))
  rw [gf329] at z
  exact z)
theorem rw68 : hget G145_ 68 = some (oI 0 120 (fun _ => 0)) := (tx138 (by omega) (by omega)).trans (by
  have z := hget_new (h := G137_) (o := oI 0 120 (fun _ => 0))
  rw [gf335] at z
  exact z)
theorem rw69 : hget G145_ 69 = some (oI 0 301 (fun _ => 0)) := (tx140 (by omega) (by omega)).trans (by
  have z := hget_new (h := G139_) (o := oI 0 301 (fun _ => 0))
  rw [gf341] at z
  exact z)
theorem rw70 : hget G145_ 70 = some (oI 0 24 (fun _ => 0)) := (tx142 (by omega) (by omega)).trans (by
  have z := hget_new (h := G141_) (o := oI 0 24 (fun _ => 0))
  rw [gf347] at z
  exact z)
theorem rw71 : hget G145_ 71 = some (oL 1 (fun _ => 0)) := (tx144 (by omega) (by omega)).trans (by
  have z := hget_new (h := G143_) (o := oL 1 (fun _ => 0))
  rw [gf353] at z
  exact z)
theorem rw72 : hget G145_ 72 = some (oE 1 (fun _ => 0)) := (tx145 (by omega) (by omega)).trans (by
  have z := hget_new (h := G144_) (o := oE 1 (fun _ => 0))
  rw [gf356] at z
  exact z)
theorem hg_cls : HG (fun p => 51 ≤ p) G104_ G145_ := fun p hp => tx104 (by first | omega | (dsimp only at hp; omega)) (by first | omega | (dsimp only at hp; omega))
theorem rh_0 : RH G145_ (fun _ => 0) (fun _ _ => 0) := by
  refine ⟨by rw [gf359]; decide, gf360, fun q h1 h2 => ?_⟩
  have hq : q = 52 ∨ q = 53 ∨ q = 54 ∨ q = 55 ∨ q = 56 ∨ q = 57 ∨ q = 58 ∨ q = 59 ∨ q = 60 ∨ q = 61 ∨ q = 62 ∨ q = 63 ∨ q = 64 ∨ q = 65 ∨ q = 66 ∨ q = 67 ∨ q = 68 ∨ q = 69 ∨ q = 70 := by omega
  rcases hq with rfl | rfl | rfl | rfl | rfl | rfl | rfl | rfl | rfl | rfl | rfl | rfl | rfl | rfl | rfl | rfl | rfl | rfl | rfl
  · exact rw52
  · exact rw53
  · exact rw54
  · exact rw55
  · exact rw56
  · exact rw57
  · exact rw58
  · exact rw59
  · exact rw60
  · exact rw61
  · exact rw62
  · exact rw63
  · exact rw64
  · exact rw65
  · exact rw66
  · exact rw67
  · exact rw68
  · exact rw69
  · exact rw70
def f_0 : Nat → Int32 := fun _ => 0
theorem pg_0 {h : AH} {p N : Nat} (h1 : hget h p = some (oO 8 [aD (p + 1), aI (nI 0)])) (h2 : hget h (p + 1) = some (oI 0 N f_0)) (hN : N ≤ 300) : PG h p N 0 f_0 := ⟨h1, h2, by omega, hN⟩
def X_0 : Nat → Nat → Int32 := xC 0 f_0
set_option maxRecDepth 20000 in
theorem c1_0 : C1 G104_ 0 f_0 := ⟨0, 0, 0, f_0, rfl, rfl, pg_0 rfl rfl (by omega)⟩
set_option maxRecDepth 20000 in
theorem c3_0 : C3 G104_ 0 X_0 := ⟨f_0, pg_0 rfl rfl (by omega), rfl⟩
set_option maxRecDepth 20000 in
theorem hi_0 : HI G104_ 17 19 0 0 := by
  refine ⟨rfl, FR8, rfl, fun i hi => ?_⟩
  have h8 : i = 0 ∨ i = 1 ∨ i = 2 ∨ i = 3 ∨ i = 4 ∨ i = 5 ∨ i = 6 ∨ i = 7 := by omega
  rcases h8 with rfl | rfl | rfl | rfl | rfl | rfl | rfl | rfl <;> rfl
set_option maxRecDepth 20000 in
theorem pgs_0 : ∀ i, i < 8 → PG G104_ (19 + 2 * i) 300 0 f_0 := by
  intro i hi
  have h8 : i = 0 ∨ i = 1 ∨ i = 2 ∨ i = 3 ∨ i = 4 ∨ i = 5 ∨ i = 6 ∨ i = 7 := by omega
  rcases h8 with rfl | rfl | rfl | rfl | rfl | rfl | rfl | rfl

  · exact pg_0 (p := 19) rfl rfl (by omega)
  · exact pg_0 (p := 21) rfl rfl (by omega)
  · exact pg_0 (p := 23) rfl rfl (by omega)
  · exact pg_0 (p := 25) rfl rfl (by omega)
  · exact pg_0 (p := 27) rfl rfl (by omega)
  · exact pg_0 (p := 29) rfl rfl (by omega)
  · exact pg_0 (p := 31) rfl rfl (by omega)
  · exact pg_0 (p := 33) rfl rfl (by omega)
def H_0 : HTy := fun _ => (0, X_0)
set_option maxRecDepth 20000 in
theorem c4_0 : C4 G104_ 0 X_0 0 H_0 := ⟨rfl, ⟨f_0, f_0, f_0, f_0, rfl, rfl, rfl, rfl, rfl⟩, ⟨f_0, pg_0 rfl rfl (by omega), rfl⟩, 0, hi_0, by omega, by omega, fun i hi => ⟨0, f_0, pgs_0 i hi, fun k hk => absurd hk (Nat.not_lt_zero k)⟩⟩
set_option maxRecDepth 20000 in
theorem c5_0 : C5 G104_ f_0 := ⟨f_0, rfl, fun _ _ => rfl⟩
set_option maxRecDepth 20000 in
theorem ma_38 : MA G104_ 37 f_0 2000 f_0 0 0 := ⟨rfl, rfl, rfl, by omega⟩
set_option maxRecDepth 20000 in
theorem ma_41 : MA G104_ 40 f_0 2000 f_0 0 0 := ⟨rfl, rfl, rfl, by omega⟩
set_option maxRecDepth 20000 in
theorem ma_44 : MA G104_ 43 f_0 300 f_0 0 0 := ⟨rfl, rfl, rfl, by omega⟩
set_option maxRecDepth 20000 in
theorem bo_0 : BO G104_ 37 40 false false := rfl
set_option maxRecDepth 20000 in
theorem c6_0 : C6 G104_ none false := ⟨37, 40, bo_0, Or.inl ⟨rfl, rfl⟩, ⟨f_0, f_0, 0, 0, ma_38, fun k hk => by cases hk⟩, ⟨f_0, f_0, 0, 0, ma_41, fun k hk => by cases hk⟩, ⟨f_0, f_0, 0, 0, ma_44⟩, f_0, rfl⟩
set_option maxRecDepth 20000 in
theorem c7_0 : C7 G104_ none := ⟨0, f_0, 0, f_0, f_0, pg_0 rfl rfl (by omega), pg_0 rfl rfl (by omega), rfl, fun v hv => by cases hv⟩
set_option maxRecDepth 20000 in
theorem c2_0 : C2 G145_ [] := by
  refine ⟨⟨f_0, (tx104 (by omega) (by omega)).trans rfl, (tx104 (by omega) (by omega)).trans rfl, by omega, by decide, fun i hi => absurd hi (Nat.not_lt_zero i)⟩, by rw [gf359], ?_⟩
  decide +kernel
theorem v_0 : VST 0 [] 0 X_0 0 X_0 0 H_0 none none := by
  have n0 : ∀ {P : Prop} (i : Nat), i < 0 → P := fun i hi => absurd hi (Nat.not_lt_zero i)
  exact ⟨by omega, ⟨by decide, fun c hc => by cases hc⟩, ⟨by omega, ⟨fun i hi => n0 i hi, ⟨fun i hi => n0 i hi, fun i hi => n0 i hi⟩, fun i hi => n0 i hi⟩, fun i hi => n0 i hi⟩, ⟨by omega, fun i hi => n0 i hi, fun i hi => n0 i hi, fun i hi => n0 i hi, fun i hi => n0 i hi, fun i hi => n0 i hi, fun i hi => n0 i hi, fun i hi => n0 i hi⟩, ⟨by omega, fun i hi => n0 i hi⟩, (fun k hk => by cases hk), (fun k hk => by cases hk)⟩
theorem xs_0 : xS 0 f_0 = X_0 := by
  funext j w
  unfold xS X_0 xC nm
  rw [if_neg (by omega), if_neg (by omega)]
theorem xm_0 : xM 0 f_0 = X_0 := by
  funext j w
  unfold xM X_0 xC nm
  rw [if_neg (by omega), if_neg (by omega)]
theorem ri_0 : RI (fun _ => 0) (fun _ _ => 0) 0 f_0 [] 0 X_0 0 X_0 0 H_0 f_0 none none := ⟨⟨rfl, rfl⟩, ⟨rfl, fun j hj => absurd hj (Nat.not_lt_zero j)⟩, ⟨rfl, xs_0⟩, ⟨rfl, xm_0, rfl, fun k hk => absurd hk (Nat.not_lt_zero k)⟩, fun _ _ => rfl, ⟨rfl, fun k hk => by cases hk⟩, rfl, fun k hk => by cases hk⟩
theorem inv_0 : INV G145_ 0 := by
  refine ⟨Nat.le_refl 0, ⟨⟨_, rw71⟩, _, rw72⟩, _, _, 0, f_0, [], 0, X_0, 0, X_0, 0, H_0, f_0, none, none, rh_0, ⟨?_, c2_0, ?_, ?_, ?_, ?_, ?_⟩, ri_0, v_0⟩
  · exact c1_0.hg hg_cls (fun p _ _ => by first | omega | (dsimp only; omega))
  · exact c3_0.hg hg_cls (fun p _ _ => by first | omega | (dsimp only; omega))
  · exact c4_0.hg hg_cls (fun p _ _ => by first | omega | (dsimp only; omega))
  · exact c5_0.hg hg_cls (by first | omega | (dsimp only; omega))
  · exact c6_0.hg hg_cls (by first | omega | (dsimp only; omega)) (fun p _ _ => by first | omega | (dsimp only; omega))
  · exact c7_0.hg hg_cls (fun p _ _ => by first | omega | (dsimp only; omega))
