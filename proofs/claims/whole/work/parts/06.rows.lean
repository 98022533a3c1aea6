/-! every row of the tables -/
set_option maxRecDepth 100000 in
theorem okG0 : (List.range' 0 16).all (fun M => (cdOf M).all (fun q => okX M q.1 q.2)) = true := by decide +kernel
set_option maxRecDepth 100000 in
theorem okG1 : (List.range' 16 16).all (fun M => (cdOf M).all (fun q => okX M q.1 q.2)) = true := by decide +kernel
set_option maxRecDepth 100000 in
theorem okG2 : (List.range' 32 16).all (fun M => (cdOf M).all (fun q => okX M q.1 q.2)) = true := by decide +kernel
set_option maxRecDepth 100000 in
theorem okG3 : (List.range' 48 16).all (fun M => (cdOf M).all (fun q => okX M q.1 q.2)) = true := by decide +kernel
set_option maxRecDepth 100000 in
theorem okG4 : (List.range' 64 16).all (fun M => (cdOf M).all (fun q => okX M q.1 q.2)) = true := by decide +kernel
set_option maxRecDepth 100000 in
theorem okG5 : (List.range' 80 16).all (fun M => (cdOf M).all (fun q => okX M q.1 q.2)) = true := by decide +kernel
set_option maxRecDepth 100000 in
theorem okG6 : (List.range' 96 16).all (fun M => (cdOf M).all (fun q => okX M q.1 q.2)) = true := by decide +kernel
set_option maxRecDepth 100000 in
theorem okG7 : (List.range' 112 16).all (fun M => (cdOf M).all (fun q => okX M q.1 q.2)) = true := by decide +kernel
set_option maxRecDepth 100000 in
theorem okG8 : (List.range' 128 16).all (fun M => (cdOf M).all (fun q => okX M q.1 q.2)) = true := by decide +kernel
set_option maxRecDepth 100000 in
theorem okG9 : (List.range' 144 16).all (fun M => (cdOf M).all (fun q => okX M q.1 q.2)) = true := by decide +kernel
set_option maxRecDepth 100000 in
theorem okG10 : (List.range' 160 16).all (fun M => (cdOf M).all (fun q => okX M q.1 q.2)) = true := by decide +kernel
set_option maxRecDepth 100000 in
theorem okG11 : (List.range' 176 16).all (fun M => (cdOf M).all (fun q => okX M q.1 q.2)) = true := by decide +kernel
set_option maxRecDepth 100000 in
theorem okG12 : (List.range' 192 16).all (fun M => (cdOf M).all (fun q => okX M q.1 q.2)) = true := by decide +kernel
set_option maxRecDepth 100000 in
theorem okG13 : (List.range' 208 16).all (fun M => (cdOf M).all (fun q => okX M q.1 q.2)) = true := by decide +kernel
set_option maxRecDepth 100000 in
theorem okG14 : (List.range' 224 16).all (fun M => (cdOf M).all (fun q => okX M q.1 q.2)) = true := by decide +kernel
set_option maxRecDepth 100000 in
theorem okG15 : (List.range' 240 16).all (fun M => (cdOf M).all (fun q => okX M q.1 q.2)) = true := by decide +kernel
set_option maxRecDepth 100000 in
theorem okG16 : (List.range' 256 1).all (fun M => (cdOf M).all (fun q => okX M q.1 q.2)) = true := by decide +kernel
