set_option maxRecDepth 20000 in
theorem yCe_ok4 : ((yCeL.drop 80).take 20).all (fun q => yCeF q.1 q.2.1 q.2.2) = true := by decide +kernel
set_option maxRecDepth 20000 in
theorem yCe_ok5 : ((yCeL.drop 100).take 20).all (fun q => yCeF q.1 q.2.1 q.2.2) = true := by decide +kernel
set_option maxRecDepth 20000 in
theorem yCe_ok6 : ((yCeL.drop 120).take 20).all (fun q => yCeF q.1 q.2.1 q.2.2) = true := by decide +kernel
set_option maxRecDepth 20000 in
theorem yCe_ok7 : ((yCeL.drop 140).take 20).all (fun q => yCeF q.1 q.2.1 q.2.2) = true := by decide +kernel
set_option maxRecDepth 20000 in
theorem yCe_ok8 : ((yCeL.drop 160).take 20).all (fun q => yCeF q.1 q.2.1 q.2.2) = true := by decide +kernel
