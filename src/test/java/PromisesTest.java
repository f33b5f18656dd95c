/** Each promise of the document by itself: ordinary inputs, the edges it names, and wrong inputs. */
public final class PromisesTest extends Checks {
  private static void newObject() {
    promise("1");
    ThinCoats x = new ThinCoats();
    due("look(0)", x.look(0), 0);
    due("look(3)", x.look(3), 0);
    due("look(4)", x.look(4), 0);
    due("out(0)", x.out(0), -1);
    int[] u = {1, 3, 2, 4, 5, 3};
    int[] v = {1, 2, 1, 3, 2, 1};
    for (int m = 0; m < 6; m++) {
      due("material " + m, x.material(m, 0), u[m]);
      due("material " + m, x.material(m, 1), v[m]);
      due("material " + m, x.material(m, 2), m == 0 ? 1 : 0);
      due("material " + m, x.material(m, 3), m == 1 ? 1 : 0);
    }
  }

  private static void feedAndEnd() {
    promise("2");
    ThinCoats x = new ThinCoats();
    for (int i = 1; i <= 10; i++) due("feed", x.feed(0, 0, 0, 0, 0), 20L * i);
    due("feed beyond 200", x.feed(0, 0, 0, 0, 0), -1);
    due("look(4)", x.look(4), 200);
    due("end", x.end(181), true);
    due("feed to 201", x.feed(0, 0, 0, 0, 0), -1);
    due("end", x.end(180), true);
    due("feed to 200", x.feed(0, 0, 0, 0, 0), 200);
    // The highest byte comes first, and one above 127 is a byte like others.
    x.end(0);
    x.feed(0x41420A43, 0x20202020, 0x20202020, 0x20202020, 0x20202020);
    due("stack()", x.stack(), 3);
    dueText(x, "ABC");
    x.feed(0x41FF2020, -1, -1, -1, -1);
    due("stack()", x.stack(), -1);
    due("fault(1)", x.fault(1), 1);

    promise("3");
    x = new ThinCoats();
    due("end(0)", x.end(0), true);
    due("end(1)", x.end(1), false);
    due("end(-1)", x.end(-1), false);
    x.feed(0x41424344, 0x41424344, 0x41424344, 0x41424344, 0x41424344);
    due("end(21)", x.end(21), false);
    due("end(20)", x.end(20), true);
    due("end(3)", x.end(3), true);
    due("end(4)", x.end(4), false);
    due("look(4)", x.look(4), 3);
    due("stack()", x.stack(), 3);
  }

  private static void stackAndFault() {
    promise("4");
    dueStack("", "");
    dueStack(" \n ", "");
    dueStack("2(A C1/2) Bh", "AC1/2AC1/2Bh");
    dueStack("A 3 ( B )", "ABBB");
    dueStack("A3(B)", "ABBB");
    dueStack("A2/3 2(B)", "A2/3BB");
    dueStack("A 2 \n/\n 4B h", "A1/2Bh");
    dueStack("A0/5B6/6C6/1D1/6", "A0/1BC6/1D1/6");
    dueStack("A03/006", "A1/2");
    dueStack("9()2(3(A)B)", "AAABAAAB");
    dueStack("2(2(2(3(F))))", "FFFFFFFFFFFFFFFFFFFFFFFF");
    dueStack("1(1(1(1(A))))1(B)", "AB");
    ThinCoats x = of("AB");
    due("look(3)", x.look(3), 1);
    due("look(4), the tape is empty then", x.look(4), 0);
    tape(x, "C)");
    due("stack()", x.stack(), -1);
    due("look(4), all stays", x.look(4), 2);
    due("look(3), all stays", x.look(3), 1);
    dueText(x, "AB");
    due("stack() again", x.stack(), -1);

    promise("5");
    due("fault(0)", x.fault(0), 1);
    due("fault(1)", x.fault(1), 1);
    due("fault(2)", x.fault(2), -1);
    due("fault(-1)", x.fault(-1), -1);
    x.end(1);
    due("stack()", x.stack(), 1);
    due("fault(0)", x.fault(0), 0);
    due("fault(1)", x.fault(1), -1);
    bytesThatCantStand();
    numbersThatCantBe();
    tooManyLayers();
  }

  private static void bytesThatCantStand() {
    dueFault("G", 1, 0);
    dueFault("a", 1, 0);
    dueFault("A\tB", 1, 1);
    dueFault("Ahh", 1, 2);
    dueFault("h", 1, 0);
    dueFault(")", 1, 0);
    dueFault("(A)", 1, 0);
    dueFault("A(B)", 1, 1);
    dueFault("A/2", 1, 1);
    dueFault("1/2", 1, 1);
    dueFault("2(A", 1, 3);
    dueFault("2(A  ", 1, 5);
    dueFault("2", 1, 1);
    dueFault("A3", 1, 2);
    dueFault("A3  ", 1, 4);
    dueFault("A3 B", 1, 3);
    dueFault("A99999999999999999999B", 1, 21);
    dueFault("A1/", 1, 3);
    dueFault("A1/h", 1, 3);
    dueFault("A1/2/3", 1, 4);
    dueFault("A1/2(B)", 1, 4);
    dueFault("A1 1/2", 1, 3);
    dueFault("2(2(2(2((", 1, 8);
  }

  private static void numbersThatCantBe() {
    dueFault("0(A)", 2, 0);
    dueFault("10(A)", 2, 0);
    dueFault("A 10 (B)", 2, 2);
    dueFault("99999999999999999999(A)", 2, 0);
    dueFault("4294967297(A)", 2, 0);
    dueFault("A7/1", 2, 1);
    dueFault("A7/x", 2, 1);
    dueFault("A7/", 2, 1);
    dueFault("A1/0", 2, 3);
    dueFault("A1/7", 2, 3);
    dueFault("A1/ 23(B)", 2, 4);
    dueFault("A1/7(B", 2, 3);
    // Ahead of a "/" that can't stand there itself: the number's place comes first.
    dueFault("7/2", 2, 0);
    dueFault("6/2", 1, 1);
    dueFault("Ah 12/2", 2, 3);
    dueFault("2(2(2(2(2(A)))))", 3, 9);
    dueFault("2(2(2(2(2 (A)))))", 3, 10);
    dueFault("2(2(2(2(0(A)))))", 2, 8);
    dueFault("2(2(2(2(A))))2(2(2(2(2(A", 3, 22);
  }

  private static void tooManyLayers() {
    dueFault("9(A) 9(B)  7(C)", 4, 11);
    dueFault("9(9(9(9(A))))", 4, 0);
    dueFault("9(AB) 2(A 3(B)) C", 4, 6);
    dueFault("3(8(A))B", 4, 7);
    dueFault("3(8(A)) 9() Ah B", 4, 12);
    // Others come first, wherever they stand.
    dueFault("9(9(A))0(B)", 2, 7);
    dueFault("9(9(A))x", 1, 7);
  }

  private static void materials() {
    promise("6");
    ThinCoats x = new ThinCoats();
    due("index that it is", x.index(1, 6, 4), false);
    due("index", x.index(1, 6, 3), true);
    due("u", x.material(1, 0), 2);
    due("v", x.material(1, 1), 1);
    due("index that it is", x.index(1, 2, 1), false);
    int[][] bad = {{-1, 1, 2}, {6, 1, 2}, {0, 0, 1}, {0, 10, 1}, {0, 1, 0}, {0, 1, 10}, {0, -1, -2}};
    for (int[] b : bad) due("index that can't be", x.index(b[0], b[1], b[2]), false);
    due("index", x.index(0, 9, 8), true);
    due("look(3), no change of the stack", x.look(3), 0);

    promise("7");
    x = new ThinCoats();
    due("as it is", x.between(0, 1), false);
    due("none such", x.between(6, 1), false);
    due("none such", x.between(-1, 1), false);
    due("none such", x.between(0, 6), false);
    due("none such", x.between(0, -1), false);
    due("between", x.between(1, 1), true);
    due("from", x.material(1, 2), 1);
    due("ground", x.material(1, 3), 1);
    due("from", x.material(0, 2), 0);

    promise("8");
    x = of("ABAh A1/2 C");
    due("layers of A", x.material(0, 4), 3);
    due("layers of B", x.material(1, 4), 1);
    due("layers of F", x.material(5, 4), 0);
    due("u of D", x.material(3, 0), 4);
    due("v of D", x.material(3, 1), 3);
    due("another what", x.material(0, 5), -1);
    due("another what", x.material(0, -1), -1);
    due("none such", x.material(6, 0), -1);
    due("none such", x.material(-1, 0), -1);
  }

  private static void layers() {
    promise("9");
    ThinCoats x = of("C2/4 Dh A0/3 B3/1");
    int[][] want = {
      {2, 1, 2, 4, 3, 11, 2, -24, 7},
      {3, 1, 0, 0, 1, 1, 0, 0, 1},
      {0, 0, 1, 0, 1, 0, 1, 0, 1},
      {1, 3, 1, -3, 4, 9, 13, -24, 7}};
    for (int i = 0; i < 4; i++) {
      for (int what = 0; what < 9; what++) due("layer(" + i + ", " + what + ")", x.layer(i, what), want[i][what]);
    }
    due("how many", x.layer(-1, 0), 4);
    due("how many", x.layer(-1, 77), 4);
    due("none such", x.layer(4, 0), -10000);
    due("none such", x.layer(-2, 0), -10000);
    due("another what", x.layer(0, 9), -10000);
    due("another what", x.layer(0, -1), -10000);

    promise("10");
    x = new ThinCoats();
    due("put", x.put(0, 1, 1, 1), 1);
    due("put", x.put(0, 0, 1, 0), 2);
    due("put", x.put(2, 2, 4, 6), 3);
    due("put", x.put(1, 5, 0, 6), 4);
    dueText(x, "AhF0/1BC2/3");
    int[][] bad = {{-1, 0, 1, 1}, {5, 0, 1, 1}, {0, -1, 1, 1}, {0, 6, 1, 1}, {0, 0, -1, 1}, {0, 0, 7, 1},
      {0, 0, 1, 7}, {0, 0, 1, -1}, {0, 0, 2, 0}, {0, 0, 0, 0}};
    for (int[] b : bad) due("put that can't be", x.put(b[0], b[1], b[2], b[3]), -1);
    for (int n = 5; n <= 24; n++) due("put", x.put(0, 0, 1, 1), n);
    due("the 25th", x.put(0, 0, 1, 1), -1);

    promise("11");
    x = of("ABC");
    due("cut", x.cut(3), -1);
    due("cut", x.cut(-1), -1);
    due("cut", x.cut(1), 2);
    dueText(x, "AC");
    due("cut", x.cut(1), 1);
    due("cut", x.cut(0), 0);
    due("cut", x.cut(0), -1);
  }

  private static void turnAndUndo() {
    promise("12");
    ThinCoats x = of("AB1/2C");
    due("turn", x.turn(), true);
    dueText(x, "CB1/2A");
    due("from", x.material(1, 2), 1);
    due("ground", x.material(0, 3), 1);
    x = of("ABA");
    due("turn, sides alone", x.turn(), true);
    x.between(2, 2);
    due("turn that changes nothing", x.turn(), false);
    due("look(3)", x.look(3), 2);
    x.put(3, 1, 1, 1);
    due("turn, layers alone", x.turn(), true);
    dueText(x, "BABA");
    x = new ThinCoats();
    due("turn without layers", x.turn(), true);

    promise("13");
    x = new ThinCoats();
    due("undo of none", x.undo(), false);
    tape(x, "AB");
    x.stack();
    x.turn();
    x.between(4, 5);
    due("undo of turn()", x.undo(), true);
    dueText(x, "AB");
    due("from, as it is now", x.material(5, 2), 1);
    due("ground, as it is now", x.material(4, 3), 1);
    x.cut(0);
    x.between(0, 1);
    due("undo of cut()", x.undo(), true);
    due("from stays", x.material(0, 2), 1);
    dueText(x, "AB");
    due("undo of stack()", x.undo(), true);
    dueText(x, "");
    due("undo", x.undo(), false);
    for (int i = 0; i < 13; i++) x.put(0, i % 6, 1, 1);
    due("changes", x.look(3), 10);
    for (int i = 0; i < 10; i++) due("undo", x.undo(), true);
    due("the oldest went", x.undo(), false);
    dueText(x, "CBA");
    undoOfEach();
  }

  private static void undoOfEach() {
    ThinCoats x = of("B1/2 B1/2");
    x.tune(0, 1);
    x.undo();
    dueText(x, "B1/2B1/2");
    due("merge", x.merge(0), 1);
    x.undo();
    dueText(x, "B1/2B1/2");
    x.index(3, 9, 4);
    x.between(0, 3);
    due("wanted", x.wanted(1, 63, 1, 1), 1);
    dueText(x, "B");
    x.undo();
    dueText(x, "B1/2B1/2");
    due("from stays, of wanted()", x.material(0, 2), 1);
    due("add", x.add(1, 63, 127) >= 0, true);
    due("look(0)", x.look(0), 3);
    x.undo();
    dueText(x, "B1/2B1/2");
    due("look(3)", x.look(3), 1);
    due("from stays, of all of these", x.material(0, 2), 1);
    due("ground stays, of all of these", x.material(3, 3), 1);
  }

  private static void matrices() {
    promise("14");
    ThinCoats x = of("C1/2 B");
    dueMatrix(x, 0, 1, 1, 0, 0, 1);
    dueMatrix(x, 1, 1, 3, 2, 8, 3);
    dueMatrix(x, 1, 2, -7, 12, 48, -7);
    // (3, 2, 8, 3) and (0, 4, 9, 0): 0 - 18, 12 + 0, 0 + 27, 0 - 32.
    dueMatrix(x, 2, 1, -18, 12, 27, -32);
    dueMatrix(x, -1, 1, -18, 12, 27, -32);
    due("n", x.matrix(3, 1, 0), -20000001);
    due("n", x.matrix(-2, 1, 0), -20000001);
    due("mark", x.matrix(0, 0, 0), -20000001);
    due("mark", x.matrix(0, 5, 0), -20000001);
    due("i", x.matrix(0, 1, -1), -20000001);
    due("i", x.matrix(0, 1, 4), -20000001);
    // Quarters of 9 by 8 and 8 by 9: the row's numbers are powers of 81 by 64, in turn.
    x = new ThinCoats();
    x.index(0, 9, 8);
    x.index(1, 8, 9);
    tape(x, "3(AB)");
    x.stack();
    dueMatrix(x, 2, 1, -4096, 0, 0, -6561);
    due("TOO FINE", x.matrix(4, 1, 0), -20000001);
    due("TOO FINE, of all behind it", x.matrix(5, 1, 0), -20000001);
    due("not at MARK 2", x.matrix(-1, 2, 0), 1);
    edgeOfTooFine();
  }

  /** 10000000 and - 10000000 are held; a little more in any of the four places is TOO FINE. */
  private static void edgeOfTooFine() {
    dueMatrix(ofIndices("A1/5 B1/3 C D5/4", 1, 4, 4, 5, 5, 4, 1, 1), 4, 1, 2250000, -10000000, -2510185, -3075624);
    dueMatrix(ofIndices("A3/5 B4/3 C4/1 D", 5, 8, 4, 1, 8, 5, 5, 2), 4, 1, 10000000, 5909760, -1828125, 1915588);
    // Each of these has its third layer's row in reach, and 10000044, 10000064, 10000200, 10000056 behind it.
    dueTooFine(ofIndices("A4/3 B1/3 C1/3 D3/4", 5, 4, 8, 1, 1, 1, 5, 4));
    dueTooFine(ofIndices("A3/5 B3/5 C3/5 D5/3", 4, 5, 8, 5, 1, 2, 4, 1));
    dueTooFine(ofIndices("A1/5 B1/2 C5/6 D5/3", 5, 8, 5, 4, 5, 4, 5, 1));
    dueTooFine(ofIndices("A3/4 B1/6 C5/3 D5/2", 4, 1, 5, 2, 5, 2, 5, 4));
    // Once TOO FINE it stays so, though the last layer would bring the numbers down again.
    ThinCoats x = ofIndices("A B A B A B A B  B A", 1, 1, 9, 1, 1, 1, 1, 1);
    dueMatrix(x, 6, 1, -531441, 0, 0, -1);
    dueMatrix(x, 7, 1, 0, -531441, -1, 0);
    for (int n = 8; n <= 10; n++) due("TOO FINE", x.matrix(n, 1, 0), -20000001);
    x.cut(6);
    x.cut(6);
    dueMatrix(x, -1, 1, 6561, 0, 0, 1);
  }

  private static void dueTooFine(ThinCoats x) {
    due("not yet TOO FINE", x.matrix(3, 1, 0) != -20000001, true);
    for (int i = 0; i < 4; i++) due("TOO FINE", x.matrix(4, 1, i), -20000001);
    due("TOO FINE", x.light(-1, 1, 0), -1);
  }

  private static void lights() {
    promise("15");
    ThinCoats x = of("C");
    // From 1 to 3 by 2 through a quarter of 2: 4 by 1.5 against 1: (5 by 11) squared.
    due("light", x.light(-1, 1, 0), 25);
    due("light", x.light(-1, 1, 1), 121);
    due("light", x.light(-1, 1, 2), 96);
    due("light", x.light(-1, 1, 3), 121);
    due("light of none", x.light(0, 1, 0), 1);
    due("light of none", x.light(0, 1, 1), 25);
    due("light of one", x.light(1, 2, 1), 25);
    due("n", x.light(2, 1, 0), -2);
    due("n", x.light(-2, 1, 0), -2);
    due("mark", x.light(0, 0, 0), -2);
    due("mark", x.light(0, 5, 0), -2);
    due("what", x.light(0, 1, 4), -2);
    due("what", x.light(0, 1, -1), -2);
    x = fine();
    due("TOO FINE", x.light(-1, 1, 0), -1);
    due("can't be comes first", x.light(-1, 1, 4), -2);
    due("not of the first ones", x.light(3, 1, 0) >= 0, true);

    promise("16");
    x = of("C");
    due("share", x.share(1), Float.floatToIntBits(25f / 121f));
    due("mark", x.share(0), -2);
    due("mark", x.share(5), -2);
    due("TOO FINE", fine().share(1), -1);
    x = new ThinCoats();
    x.between(0, 0);
    due("nothing", x.share(1), 0);

    promise("17");
    x = of("C");
    due("through", x.through(1), Double.doubleToLongBits(96.0 / 121.0));
    due("mark", x.through(0), -2);
    due("mark", x.through(5), -2);
    due("TOO FINE", fine().through(1), -1);
    x = new ThinCoats();
    x.between(0, 0);
    due("all", x.through(1), Double.doubleToLongBits(1.0));
    x = ofIndices("C1/3", 1, 1, 1, 4, 3, 2);
    due("a half, light", x.light(-1, 1, 1), 2);
    due("a half, share", x.share(1), Float.floatToIntBits(0.5f));
    due("a half, through", x.through(1), Double.doubleToLongBits(0.5));
    bitsOfManyShares();
  }

  /** Mirrors let little through: the bits are right down to small shares, and where one is nearly 1. */
  private static void bitsOfManyShares() {
    for (int u = 1; u <= 9; u++) {
      for (int n = 0; n <= 24; n++) {
        ThinCoats x = new ThinCoats();
        x.index(0, 1, 1);
        x.index(5, u, 1);
        for (int i = 0; i < n; i++) x.put(0, i % 2 == 0 ? 5 : 0, 1, i % 7 == 3 ? 2 : 1);
        long below = x.light(-1, 1, 1);
        if (below < 0) continue;
        promise("16");
        due("share", x.share(1), Float.floatToIntBits((float) x.light(-1, 1, 0) / (float) below));
        promise("17");
        due("through", x.through(1),
            Double.doubleToLongBits((double) x.light(-1, 1, 2) / (double) x.light(-1, 1, 3)));
      }
    }
  }

  private static void admittances() {
    promise("18");
    ThinCoats x = of("C");
    due("of a quarter", x.admittance(-1, 1, 0), 8);
    due("of a quarter", x.admittance(-1, 1, 1), 3);
    due("of a quarter", x.admittance(-1, 1, 2), 0);
    due("of a quarter", x.admittance(-1, 1, 3), 1);
    x = of("C1/2");
    // 3, 2, 8, 3 with 3 by 2: B 6 and 6, C 9 and 16: (54 + 96) by 72, (96 - 54) by 72.
    due("without i", x.admittance(1, 1, 0), 25);
    due("without i", x.admittance(1, 1, 1), 12);
    due("with i", x.admittance(1, 1, 2), 7);
    due("with i", x.admittance(1, 1, 3), 12);
    due("of none", x.admittance(0, 1, 0), 3);
    x.index(2, 1, 2);
    due("with i below 0", x.admittance(1, 1, 2) < 0, true);
    due("n", x.admittance(2, 1, 0), Long.MIN_VALUE);
    due("n", x.admittance(-2, 1, 0), Long.MIN_VALUE);
    due("mark", x.admittance(0, 0, 0), Long.MIN_VALUE);
    due("mark", x.admittance(0, 5, 0), Long.MIN_VALUE);
    due("what", x.admittance(0, 1, -1), Long.MIN_VALUE);
    due("what", x.admittance(0, 1, 4), Long.MIN_VALUE);
    due("TOO FINE", fine().admittance(-1, 1, 0), Long.MIN_VALUE);
  }

  private static void atMarks() {
    promise("19");
    ThinCoats x = fine();
    due("TOO FINE", x.marks(2), 5);
    due("through 0", x.marks(1), 0);
    x.between(0, 0);
    due("back 0", x.marks(0), 10);
    // Three layers of A would throw nothing back, but are TOO FINE at MARK 4.
    x = of("3(A1/2)");
    x.between(0, 0);
    due("back 0", x.marks(0), 7);
    due("TOO FINE", x.marks(2), 8);
    due("what", x.marks(3), -1);
    due("what", x.marks(-1), -1);

    promise("20");
    x = of("C");
    due("least", x.extreme(0), 2);
    due("greatest", x.extreme(1), 1);
    due("what", x.extreme(2), -1);
    due("what", x.extreme(-1), -1);
    x = fine();
    due("TOO FINE ones are none", x.extreme(0), 2);
    due("TOO FINE ones are none", x.extreme(1), 2);
    tape(x, "2(AC) 4(A1/3 C1/3 A2/5)");
    x.stack();
    due("all TOO FINE", x.marks(2), 15);
    due("all TOO FINE", x.extreme(0), -1);
    due("all TOO FINE", x.extreme(1), -1);

    promise("21");
    x = of("CAC");
    // 1 by 25, 25 by 121, (5 by 29)^2 and so on.
    due("below", x.below(1, 1, 25), 1);
    due("below", x.below(1, 25, 121), 2);
    due("below", x.below(1, 24, 121), 1);
    due("below", x.below(1, 0, 1), 0);
    due("below, at its edge", x.below(1, 40, 1000), 1);
    due("below, at its edge", x.below(1, 39, 1000), 0);
    due("below", x.below(1, 1000, 1), 4);
    due("mark", x.below(0, 1, 1), -1);
    due("mark", x.below(5, 1, 1), -1);
    due("above", x.below(1, -1, 1), -1);
    due("above", x.below(1, 1001, 1), -1);
    due("below", x.below(1, 1, 0), -1);
    due("below", x.below(1, 1, 1001), -1);
    due("TOO FINE ones don't", fine().below(1, 1, 1), 4);
    due("all", fine().below(2, 1, 1), 5);
  }

  private static void slips() {
    ThinCoats x = of("Bh B A2/3 F1/6");
    x.between(2, 4);
    double most = -1;
    int worst = -1;
    promise("23");
    for (int bits = 0; bits < 16; bits++) {
      long above = x.corner(2, 3, bits, 0);
      long below = x.corner(2, 3, bits, 1);
      due("a half does not slip", above, x.corner(2, 3, bits ^ 1, 0));
      double share = (double) above / below;
      if (share > most) {
        most = share;
        worst = bits;
      }
    }
    promise("22");
    due("worst", x.worst(2, 3, 0), worst);
    due("worst", x.worst(2, 3, 1), x.corner(2, 3, worst, 0));
    due("worst", x.worst(2, 3, 2), x.corner(2, 3, worst, 1));
    due("mark", x.worst(0, 3, 0), -2);
    due("mark", x.worst(5, 3, 0), -2);
    due("s", x.worst(1, 1, 0), -2);
    due("s", x.worst(1, 13, 0), -2);
    due("s", of("C1/2").worst(1, 12, 0), 1);
    due("what", x.worst(1, 2, 3), -2);
    due("what", x.worst(1, 2, -1), -2);
    due("of several the least", of("8(Ah)").worst(1, 2, 0), 0);
    due("9 layers", of("9(Ah)").worst(1, 2, 0), -2);
    due("9 layers", of("9(Ah)").corner(1, 2, 0, 0), -2);
    due("one is TOO FINE", of("8(B1/5)").worst(4, 11, 0), -1);

    promise("23");
    due("TOO FINE", of("8(B1/5)").corner(4, 11, 255, 0), -1);
    due("bits", x.corner(1, 2, 16, 0), -2);
    due("bits", x.corner(1, 2, -1, 0), -2);
    due("what", x.corner(1, 2, 0, 2), -2);
    due("what", x.corner(1, 2, 0, -1), -2);
    due("mark", x.corner(0, 2, 0, 0), -2);
    due("mark", x.corner(5, 2, 0, 0), -2);
    due("s", x.corner(1, 1, 0, 0), -2);
    due("s", x.corner(1, 13, 0, 0), -2);
    // C1/2 by 2: 0 by 1 (nothing there) and 1 by 1 (a quarter).
    x = of("C1/2");
    due("the lesser", x.corner(1, 2, 0, 1), 25);
    due("the greater", x.corner(1, 2, 1, 1), 121);
    // C1/6 by 2: below 0 is 0.
    due("below 0", of("C1/6").corner(1, 2, 0, 1), 25);
  }

  private static void tenders() {
    promise("24");
    // A is as where light comes from: it never matters. C grows by its greater slip.
    due("tender", of("A C1/2").tender(1, 2), 1);
    due("none without layers", new ThinCoats().tender(1, 2), -1);
    due("none grows", of("A2/3").tender(1, 2), -1);
    due("a half does not slip", of("Ch").tender(1, 2), -1);
    // Two of one kind side by side slip alike.
    due("of several the first", of("C1/4 C1/4").tender(1, 4), 0);
    due("mark", of("A").tender(0, 2), -2);
    due("mark", of("A").tender(5, 2), -2);
    due("s", of("A").tender(1, 1), -2);
    due("s", of("A").tender(1, 13), -2);
    due("the stack itself is TOO FINE", fine().tender(1, 2), -1);
    due("of more than 8", of("9(Ah) C1/2").tender(1, 2), 9);
  }

  private static void wants() {
    promise("25");
    ThinCoats x = toNineByFour();
    due("wanted", x.wanted(5, 63, 127, 3), 1);
    dueText(x, "B");
    due("look(3)", x.look(3), 1);
    due("none", x.wanted(3, 2, 1, 1), -1);
    due("look(3), all stays", x.look(3), 1);
    dueText(x, "B");
    due("a change though it is the same", x.wanted(5, 63, 127, 3), 1);
    due("look(3)", x.look(3), 2);
    int[][] bad = {{0, 63, 127, 1}, {16, 63, 127, 1}, {15, 0, 127, 1}, {15, 64, 127, 1}, {15, 63, 0, 1},
      {15, 63, 128, 1}, {15, 63, 127, 0}, {15, 63, 127, 4}};
    for (int[] b : bad) due("can't be", x.wanted(b[0], b[1], b[2], b[3]), -2);
    // From A to A a layer of A throws nothing back, and of others a half would.
    x = new ThinCoats();
    x.between(0, 0);
    due("the first by MATERIAL, THICKNESS", x.wanted(15, 63, 126, 3), 1);
    dueText(x, "A1/2");
    // Two quarters: (u2 by u1)^2 is 4 by 1.
    x = new ThinCoats();
    x.index(3, 4, 1);
    x.index(0, 1, 1);
    x.between(0, 3);
    due("two quarters", x.wanted(1, 0b100010, 1, 3), 2);
    dueText(x, "BF");
    // Of one material alone there is never a second one beside it.
    due("not two alike", x.wanted(1, 2, 1, 3), -1);
    // Three quarters, (u1 u3 by u2)^2 is 9 by 4 with 1, 3 by 2 in their turn but no two alike.
    x = toNineByFour();
    due("ways", x.ways(1, 0b110, 1, 3), 0);

    promise("26");
    x = toNineByFour();
    due("ways", x.ways(1, 63, 1, 1), 1);
    due("ways", x.ways(1, 1, 127, 1), 0);
    due("the stack stays", x.look(0), 0);
    x.between(0, 0);
    due("each THICKNESS of A", x.ways(15, 1, 127, 1), 7);
    due("never two alike", x.ways(15, 1, 127, 2), 0);
    for (int[] b : bad) due("can't be", x.ways(b[0], b[1], b[2], b[3]), -2);
    // A and another one of the same index are not alike: 2 * 7 * 7 rows of two.
    x.index(5, 1, 1);
    due("of two", x.ways(1, 0b100001, 127, 2), 98);
    due("of three", x.ways(1, 0b100001, 3, 3), 16);
    // At MARK 4 three layers of 1 by 2 reach 625 ^ 3, which is TOO FINE.
    due("of three", x.ways(8, 0b100001, 3, 3), 14);
  }

  private static void tunes() {
    promise("27");
    ThinCoats x = toNineByFour();
    x.put(0, 1, 1, 0);
    due("tune", x.tune(0, 1), 0);
    dueText(x, "B");
    due("look(3)", x.look(3), 2);
    due("a change in any case", x.tune(0, 1), 0);
    due("look(3)", x.look(3), 3);
    due("i", x.tune(1, 1), -2);
    due("i", x.tune(-1, 1), -2);
    due("mark", x.tune(0, 0), -2);
    due("mark", x.tune(0, 5), -2);
    // A changes nothing: of several the least number.
    x = of("A6/5");
    due("of several the least", x.tune(0, 3), 0);
    dueText(x, "A");
    // Behind 531441, 0, 0, 1 a layer D1/3 (20, 3, 75, 20) is TOO FINE, a quarter (0, 1, 25, 0) is not.
    x = ofIndices("3(AB) D1/3", 1, 1, 9, 1, 2, 1, 5, 1);
    due("TOO FINE", x.light(-1, 1, 0), -1);
    due("some are TOO FINE", x.tune(6, 1) >= 0, true);
    due("not TOO FINE", x.light(-1, 1, 0) >= 0, true);
    x = new ThinCoats();
    x.index(0, 9, 8);
    x.index(2, 8, 9);
    tape(x, "2(AC) D1/3");
    x.stack();
    due("all are TOO FINE", x.tune(4, 1), -1);
    due("nothing done", x.look(3), 1);
    dueText(x, "ACACD1/3");
  }

  private static void adds() {
    promise("28");
    ThinCoats x = toNineByFour();
    due("add", x.add(5, 63, 127), 0);
    dueText(x, "B");
    due("no better one", x.add(5, 63, 127), -1);
    due("look(3)", x.look(3), 1);
    due("no MARK", x.add(0, 63, 127), -2);
    due("no MATERIAL", x.add(1, 0, 127), -2);
    due("no THICKNESS", x.add(1, 63, 0), -2);
    due("no THICKNESS", x.add(1, 63, 128), -2);
    x = of("3(8(A))");
    due("there are 24", x.add(1, 63, 127), -1);
    due("can't be comes first", x.add(0, 63, 127), -2);
    // With light from A a layer of A changes nothing at place 0: not less.
    x = of("C");
    due("not less", x.add(1, 1, 1), -1);
    x = fine();
    due("TOO FINE: any is less", x.add(1, 0b100100, 127) >= 0, true);
    x = fine();
    due("TOO FINE at one of the MARKS: any is less", x.add(3, 0b000100, 1) >= 0, true);
    // The greatest at both MARKS counts, not that at the first.
    x = toNineByFour();
    due("greatest stays at MARK 2", x.add(3, 63, 1), -1);
  }

  private static void merges() {
    promise("29");
    ThinCoats x = of("B1/2 B1/3 C Ch Dh Dh A B2/1 B");
    due("unlike", x.merge(1), -1);
    due("1 by 2 and 1 by 3", x.merge(0), 8);
    due("a quarter and a half", x.merge(1), -1);
    due("two halves", x.merge(3), 7);
    dueText(x, "BCChD0/1AB2/1B");
    due("- 3 by 1", x.merge(5), -1);
    due("i", x.merge(6), -1);
    due("i", x.merge(-1), -1);
    due("i", x.merge(Integer.MAX_VALUE), -1);
    x = of("BB");
    due("two quarters", x.merge(0), 1);
    dueText(x, "Bh");
    x = of("B1/5 B1/6");
    due("11 by 29", x.merge(0), -1);
    due("look(3)", x.look(3), 1);
    x = of("B0/1 Bh");
    due("nothing and a half", x.merge(0), 1);
    dueText(x, "Bh");
    x = of("B0/1 B0/1");
    due("nothing twice", x.merge(0), 1);
    dueText(x, "B0/1");
    x = of("B1/5 B2/3");
    due("13 by 13", x.merge(0), 1);
    dueText(x, "B");
  }

  private static void shows() {
    promise("30");
    due("period", of("3(AB1/2)").period(0), 2);
    due("period", of("3(AB1/2)").period(1), 3);
    due("period", of("ABA").period(0), 3);
    due("period", of("ABA").period(1), 1);
    due("period", of("8(3(A))").period(0), 1);
    due("period", of("8(3(A))").period(1), 24);
    due("period", of("AAh").period(0), 2);
    due("period", of("2(AABA)").period(0), 4);
    due("none", new ThinCoats().period(0), 0);
    due("none", new ThinCoats().period(1), 0);
    due("what", of("A").period(2), -1);
    due("what", of("A").period(-1), -1);

    promise("31");
    ThinCoats x = of("3(8(F5/6))");
    due("show", x.show(), 96);
    due("out", x.out(95), '6');
    due("out", x.out(96), -1);
    x = of("A 1/1 Bh C0/4 2(D3/2)");
    due("show", x.show(), 15);

    promise("32");
    String want = "ABhC0/1D3/2D3/2";
    for (int i = 0; i < want.length(); i++) due("out(" + i + ")", x.out(i), want.charAt(i));
    x.cut(0);
    due("shown latest", x.out(0), 'A');
    due("out", x.out(-1), -1);
    due("out", x.out(15), -1);
    x.show();
    due("shown latest", x.out(0), 'B');
    due("out", x.out(14), -1);
  }

  private static void spares() {
    promise("33");
    // A in front is as where light comes from, B behind as the ground, a half counts for nothing at MARK 1.
    ThinCoats x = of("A1/2 C1/2 Fh B");
    due("spare", x.spare(1), 0b1101);
    due("spare at all", x.spare(15), 0b1101);
    x = of("C Fh");
    due("spare", x.spare(1), 2);
    x = of("CC");
    due("spare at 2", x.spare(2), 3);
    due("spare at 1", x.spare(1), 0);
    due("spare at both", x.spare(3), 0);
    due("no MARK", x.spare(0), -2);
    due("no MARK", x.spare(16), -2);
    due("TOO FINE with it", fine().spare(1), 0);
    due("not at MARK 2", fine().spare(2), 15);
    due("TOO FINE at one", fine().spare(3), 0);
    due("without layers", new ThinCoats().spare(15), 0);
  }

  private static void looks() {
    promise("34");
    ThinCoats x = of("A Bh F A1/2 Bh");
    tape(x, "AB");
    int[] want = {5, 0b100011, 0, 1, 2, 2, 2};
    for (int what = 0; what < 7; what++) due("look(" + what + ")", x.look(what), want[what]);
    due("what", x.look(7), -1);
    due("what", x.look(-1), -1);
    due("same turned round", of("AB1/2A").look(2), 1);
    due("not the same", of("AB1/2Ah").look(2), 0);
    x = of("ABBA");
    x.between(0, 1);
    due("layers alone", x.look(2), 1);
  }

  public static void main(String[] args) {
    newObject();
    feedAndEnd();
    stackAndFault();
    materials();
    layers();
    turnAndUndo();
    matrices();
    lights();
    admittances();
    atMarks();
    slips();
    tenders();
    wants();
    tunes();
    adds();
    merges();
    shows();
    spares();
    looks();
    finish("all promises hold");
  }
}
