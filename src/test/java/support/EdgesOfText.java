/** The edges of THE TAPE, of a TEXT and of its FAULTS: the terms ahead of "==== 2.", promises 1 to 5. */
final class EdgesOfText extends Checks {
  private static final String T = "Terms";

  static void run() {
    materials();
    texts();
    numbers();
    thicknesses();
    firstFaults();
    bytes();
    numbersThatCantBe();
    tooManyOpen();
    tooManyLayers();
    newObject();
    feed();
    end();
    stack();
    fault();
  }

  private static String times(int n, String text) {
    return text.repeat(n);
  }

  private static void materials() {
    sentence(T, "MATERIALS A .. F", () -> {
      dueStack("ABCDEF", "ABCDEF");
      dueFault("@", 1, 0);
      dueFault("G", 1, 0);
      dueFault("a", 1, 0);
      dueFault("f", 1, 0);
    });
    sentence(T, "A 1 by 1, B 3 by 2, C 2 by 1, D 4 by 3, E 5 by 2, F 3 by 1 at first", () -> {
      int[][] first = {{1, 1}, {3, 2}, {2, 1}, {4, 3}, {5, 2}, {3, 1}};
      ThinCoats x = new ThinCoats();
      for (int m = 0; m < 6; m++) {
        due("material(" + m + ", 0)", x.material(m, 0), first[m][0]);
        due("material(" + m + ", 1)", x.material(m, 1), first[m][1]);
      }
    });
    sentence(T, "Light comes from one (A at first), behind the STACK is another one, the GROUND (B at first).", () -> {
      ThinCoats x = new ThinCoats();
      for (int m = 0; m < 6; m++) {
        due("material(" + m + ", 2)", x.material(m, 2), m == 0 ? 1 : 0);
        due("material(" + m + ", 3)", x.material(m, 3), m == 1 ? 1 : 0);
      }
    });
  }

  private static void texts() {
    sentence(T, "THE TAPE has 200 bytes.", () -> {
      // The last byte counts, and what is behind the last one is the end.
      dueStack(times(199, " ") + "A", "A");
      dueFault(times(199, " ") + "x", 1, 199);
      dueStack(times(200, " "), "");
      dueFault("2(" + times(198, "\n"), 1, 200);
      dueStack(times(50, "4()\n"), "");
      dueStack(times(192, " ") + "1 (Ah ) ", "Ah");
    });
    sentence(T, "A TEXT of a STACK: { ITEM }.", () -> {
      dueStack("", "");
      dueStack("A", "A");
      dueStack("AB", "AB");
      dueStack("A1(B)", "AB");
    });
    sentence(T, "NUMBER \"(\" { ITEM } \")\" (so many times, 1 .. 9)", () -> {
      dueStack("1(A)", "A");
      dueStack("9(A)", times(9, "A"));
      dueStack("9()", "");
      dueStack("2(AB1/2)", "AB1/2AB1/2");
      dueStack("2(A2(BC)D)", "ABCBCDABCBCD");
      dueStack("2(A2())", "AA");
      dueFault("0(A)", 2, 0);
      dueFault("10(A)", 2, 0);
    });
    sentence(T, "Blanks (32, 10) between all others where one likes.", () -> {
      dueStack(" \n2 \n( \nA \n1 \n/ \n2 \nB \nh \n3 \n( \nC \n) \n) \n", times(2, "A1/2BhCCC"));
      dueStack("2(A1/2Bh3(C))", times(2, "A1/2BhCCC"));
      int[] others = {0, 9, 11, 12, 13, 31, 33, 127, 128, 138, 160, 255};
      for (int b : others) dueFault("A" + (char) b + "B", 1, 1);
    });
    sentence(T, "A STACK has 24 LAYERS at most.", () -> {
      dueStack(times(24, "A"), times(24, "A"));
      dueStack("8(ABC)", times(8, "ABC"));
      dueFault(times(25, "A"), 4, 24);
      dueFault("5(ABCDE)", 4, 0);
    });
  }

  private static void numbers() {
    sentence(T, "NUMBER: one digit or more that stand together (no blank within).", () -> {
      dueStack("A03/004", "A3/4");
      dueStack("A" + times(190, "0") + "1/2", "A1/2");
      dueStack("A1/" + times(190, "0") + "2", "A1/2");
      dueStack(times(190, "0") + "2(A)", "AA");
      dueFault("A1 2/3", 1, 3);
      dueFault("A1\n2/3", 1, 3);
      dueFault("0 2(A)", 1, 2);
      // Two digits apart: the first is the number, and what stands behind it can't stand there.
      dueFault("A1/2 3", 1, 6);
      dueFault("A1/2 3/4", 1, 6);
    });
  }

  private static void thicknesses() {
    sentence(T, "1 by 1 without THICK (a quarter), 1 by 0 for h (a half)", () -> {
      ThinCoats x = of("C Ch");
      due("layer(0, 1)", x.layer(0, 1), 1);
      due("layer(0, 2)", x.layer(0, 2), 1);
      due("layer(1, 1)", x.layer(1, 1), 1);
      due("layer(1, 2)", x.layer(1, 2), 0);
      // A number that is ahead of a "(" is no THICK.
      dueStack("C4(C)C", "CCCCCC");
    });
    sentence(T, "else the two NUMBERS (0 .. 6 by 1 .. 6), in lowest terms", () -> {
      for (int p = 0; p <= 6; p++) {
        for (int q = 1; q <= 6; q++) {
          ThinCoats x = of("E" + p + "/" + q);
          int by = 1;
          for (int d = 2; d <= 6; d++) if (p % d == 0 && q % d == 0) by = d;
          due(p + " of " + p + "/" + q, x.layer(0, 1), p / by);
          due(q + " of " + p + "/" + q, x.layer(0, 2), q / by);
        }
        dueFault("E" + p + "/0", 2, 3);
        dueFault("E" + p + "/7", 2, 3);
      }
      dueFault("E7/1", 2, 1);
    });
  }

  private static void firstFaults() {
    sentence(T, "FAULTS, the first by its place (from 0; the end: its length)", () -> {
      dueFault("xx", 1, 0);
      dueFault("Ax", 1, 1);
      dueFault("A7/1x", 2, 1);
      dueFault("Ax7/1", 1, 1);
      dueFault("0(2(2(2(2(A", 2, 0);
      dueFault("2(2(2(2(2(0(A", 3, 9);
      dueFault("A1/0 x", 2, 3);
      dueFault("1(", 1, 2);
      dueFault("1(  ", 1, 4);
      dueFault("A1/", 1, 3);
      dueFault("A1/ \n", 1, 5);
    });
    sentence(T, "of one place the least", () -> {
      // What stands behind a number that is ahead of neither is 1, though it is a number that can't be.
      dueFault("1 10(A)", 1, 2);
      dueFault("A1 7/2", 1, 3);
      // A "(" without a number can't stand there, though it is the 5th that is open.
      dueFault("2(2(2(2((A", 1, 8);
      dueFault("2(2(2(2(A(B", 1, 9);
    });
  }

  private static void bytes() {
    sentence(T, "1 a byte that can't stand there.", () -> {
      dueFault("h", 1, 0);
      dueFault("(A)", 1, 0);
      dueFault(")", 1, 0);
      dueFault("/", 1, 0);
      dueFault("A/2", 1, 1);
      dueFault("A(B)", 1, 1);
      dueFault("A)", 1, 1);
      dueFault("Ahh", 1, 2);
      dueFault("Ah/2", 1, 2);
      dueFault("AH", 1, 1);
      dueFault("A1/h", 1, 3);
      dueFault("A1/B", 1, 3);
      dueFault("A1//2", 1, 3);
      dueFault("A1/(B)", 1, 3);
      dueFault("A1/2/3", 1, 4);
      dueFault("A1/2h", 1, 4);
      dueFault("A1/2(B)", 1, 4);
      dueFault("A1.5", 1, 2);
      dueFault("A-1/2", 1, 1);
      dueFault("2(A))", 1, 4);
      dueFault("1()(A)", 1, 3);
      dueFault("2(A", 1, 3);
      dueFault("2(2(A)", 1, 6);
      for (int b = 0; b < 256; b++) {
        boolean stands = b >= 'A' && b <= 'F' || b == ' ' || b == '\n' || b >= '0' && b <= '9';
        if (!stands) dueFault("B1/2" + (char) b, 1, 4);
      }
    });
  }

  private static void numbersThatCantBe() {
    sentence(T, "2 a NUMBER that can't be (at its first digit", () -> {
      dueFault("A 012/1", 2, 2);
      dueFault("A 1/ 012", 2, 5);
      dueFault("A\n0010(B)", 2, 2);
    });
    sentence(T, "ahead of a \"(\" 1 .. 9", () -> {
      for (int n = 1; n <= 9; n++) dueStack(n + "(A)", times(n, "A"));
      dueFault("0(A)", 2, 0);
      dueFault("00 (A)", 2, 0);
      dueFault("10(A)", 2, 0);
      dueFault("A0(A)", 2, 1);
      dueFault("A10(A)", 2, 1);
      // 2 ^ 32 and 1, 2 ^ 64 and 1, and one that is as long as can be.
      dueFault("4294967297(A)", 2, 0);
      dueFault("18446744073709551617(A)", 2, 0);
      dueFault("1" + times(197, "0") + "1(", 2, 0);
      dueFault("0()", 2, 0);
    });
    sentence(T, "ahead of a \"/\" 0 .. 6", () -> {
      for (int n = 0; n <= 6; n++) due("stack() of " + n + "/5", of("A" + n + "/5").look(0), 1);
      dueFault("A7/5", 2, 1);
      dueFault("A10/5", 2, 1);
      dueFault("A4294967297/5", 2, 1);
      dueFault("A18446744073709551617/5", 2, 1);
      dueFault("A7/", 2, 1);
      dueFault("A7 / x", 2, 1);
      // Where the "/" itself can't stand the number's place still comes ahead of it.
      dueFault("7/2", 2, 0);
      dueFault("6/2", 1, 1);
      dueFault("0/2", 1, 1);
      dueFault("Ah7/2", 2, 2);
    });
    sentence(T, "behind one 1 .. 6", () -> {
      for (int n = 1; n <= 6; n++) due("stack() of 5/" + n, of("A5/" + n).look(0), 1);
      dueFault("A5/0", 2, 3);
      dueFault("A5/7", 2, 3);
      dueFault("A5/ 10", 2, 4);
      dueFault("A5/4294967297", 2, 3);
      dueFault("A5/18446744073709551617", 2, 3);
      dueFault("A0/0", 2, 3);
      dueFault("A1/0(B)", 2, 3);
      dueFault("A1/7(B)", 2, 3);
      dueFault("A1/7/2", 2, 3);
    });
    sentence(T, "one ahead of neither is 1 at what stands behind it", () -> {
      dueFault("3A", 1, 1);
      dueFault("3 \nA", 1, 3);
      dueFault("3", 1, 1);
      dueFault("3 ", 1, 2);
      dueFault("A3", 1, 2);
      dueFault("A3 \n", 1, 4);
      dueFault("A3B", 1, 2);
      dueFault("A3h", 1, 2);
      dueFault("A0B", 1, 2);
      dueFault("A99B", 1, 3);
      dueFault("2(3)", 1, 3);
      dueFault("A" + times(199, "9"), 1, 200);
      dueFault(times(200, "9"), 1, 200);
    });
  }

  private static void tooManyOpen() {
    sentence(T, "3 the 5th \"(\" that is open (at it).", () -> {
      dueStack("1(1(1(1(A))))", "A");
      dueFault("1(1(1(1(1(A)))))", 3, 9);
      dueFault("1(1(1(1(1 \n(A)))))", 3, 11);
      dueFault("1(1(1(1(A1(B)))))", 3, 10);
      // Those that are closed don't count.
      dueStack("1(A)1(A)1(A)1(A)1(A)", "AAAAA");
      dueStack("1(1(1(1(A)1(B))1(1(C))))1(1(1(1(D))))", "ABCD");
      dueFault("1(1(1(1(A))))1(1(1(1(1(A", 3, 22);
      dueFault("1(1(1(1(1(", 3, 9);
      dueFault("1(1(1(1(0(A)))))", 2, 8);
    });
  }

  private static void tooManyLayers() {
    sentence(T, "4, if there is none of these: more than 24 LAYERS", () -> {
      dueStack("8(3(A))", times(24, "A"));
      dueFault("8(3(A))A", 4, 7);
      // Others come first, however far behind they stand.
      dueFault("9(9(A))x", 1, 7);
      dueFault("9(9(A))" + times(192, " ") + "x", 1, 199);
      dueFault("9(9(A))0(B)", 2, 7);
      dueFault("9(9(A))B7/1", 2, 8);
      dueFault("9(9(A))1(1(1(1(1(A", 3, 16);
      dueFault("9(9(A)", 1, 6);
    });
    sentence(T, "at the first byte of the ITEM, not within others, by which they come", () -> {
      dueFault("8(ABC) D", 4, 7);
      dueFault("8(ABC) 2() 1(1()) \n2(D)E", 4, 19);
      dueFault("8(ABC)Dh", 4, 6);
      dueFault("8(ABC)D1/2", 4, 6);
      dueFault("A 5(AB 2(CD))", 4, 2);
      dueFault("9(A)9(B)6(C)DEF", 4, 12);
      dueFault("9(A)9(B)  7(C)DEF", 4, 10);
      dueFault("9(A)9(B)5(C)2(1(D)) E", 4, 12);
      dueFault(times(24, "A") + "\n1(1(1(1(B))))", 4, 25);
    });
    sentence(T, "all of it is unfolded", () -> {
      dueStack("2(9(A)3(B))", times(2, times(9, "A") + "BBB"));
      dueFault("2(9(A)4(B))", 4, 0);
      dueStack("9(9(9(9())))A", "A");
      dueFault("9(9(9(9(A))))", 4, 0);
      dueFault("9(9(9(9(ABCDEF))))", 4, 0);
      dueFault("1(" + times(190, "A") + ")", 4, 0);
    });
  }

  private static void newObject() {
    sentence("1", "No LAYERS.", () -> {
      ThinCoats x = new ThinCoats();
      due("look(0)", x.look(0), 0);
      due("layer(NONE, 0)", x.layer(NONE, 0), 0);
      String first = "| undo 0 tape 0 fault 0 at -1 | 1/1< 3/2> 2/1 4/3 5/2 3/1 | shown ";
      dueWords("a new object", state(x), first);
      // What is done to one object is not done to another.
      x.put(0, 0, 1, 1);
      x.show();
      x.index(0, 7, 9);
      x.between(3, 4);
      x.feed(0, 0, 0, 0, 0);
      dueWords("a new object", state(new ThinCoats()), first);
    });
    sentence(T, "NONE = -1", () -> due("NONE", ThinCoats.NONE, -1));
    sentence("What it is", "An object is used for at most 512 calls after it has been made", () -> {
      ThinCoats x = new ThinCoats();
      for (int calls = 0; calls < 510; calls += 3) {
        due("put", x.put(0, 2, 1, 2), 1);
        due("light", x.light(NONE, 1, 0) > 0, true);
        due("undo", x.undo(), true);
      }
      due("the 511th call", x.put(0, 2, 1, 1), 1);
      due("the 512th call", x.light(NONE, 1, 1), 121);
    });
  }

  private static void feed() {
    sentence("2", "Twenty bytes come behind THE TAPE, four of each number, the highest first: how many it has", () -> {
      ThinCoats x = new ThinCoats();
      due("feed", x.feed(0x41424344, 0x45464142, 0x43444546, 0x41424344, 0x45464120), 20);
      due("end(19)", x.end(19), true);
      due("feed", x.feed(0x68420A20, 0x20202020, 0x20202020, 0x20202020, 0x20202043), 39);
      due("stack()", x.stack(), 21);
      dueText(x, "ABCDEFABCDEFABCDEFAhBC");
    });
    sentence("2", "four of each number, the highest first", () -> {
      // Numbers below 0: their bytes are 128 and more.
      ThinCoats x = new ThinCoats();
      x.feed(0x41424346, -1, -1, -1, -1);
      due("stack()", x.stack(), NONE);
      due("fault(1)", x.fault(1), 4);
      x = new ThinCoats();
      x.feed(0xC1424346, 0, 0, 0, 0);
      due("stack()", x.stack(), NONE);
      due("fault(1)", x.fault(1), 0);
    });
    sentence("2", "NONE, and none come, if there would be more than 200", () -> {
      ThinCoats x = new ThinCoats();
      for (int i = 1; i <= 10; i++) due("feed", x.feed(0x20202020, 0x20202020, 0x20202020, 0x20202020, 0x20202020), 20L * i);
      dueStays(x, "feed of 200", () -> x.feed(0x41414141, 0x41414141, 0x41414141, 0x41414141, 0x41414141), NONE);
      x.end(181);
      dueStays(x, "feed of 181", () -> x.feed(0x41414141, 0x41414141, 0x41414141, 0x41414141, 0x41414141), NONE);
      due("look(4)", x.look(4), 181);
      due("none came", x.stack(), 0);
      for (int i = 1; i <= 9; i++) x.feed(0x20202020, 0x20202020, 0x20202020, 0x20202020, 0x20202020);
      due("feed of 180", x.feed(0x41414141, 0x41414141, 0x41414141, 0x41414141, 0x41414141), 200);
      due("all came", x.stack(), 20);
    });
  }

  private static void end() {
    sentence("3", "THE TAPE has its first n bytes alone: true", () -> {
      ThinCoats x = new ThinCoats();
      due("end(0) of none", x.end(0), true);
      x.feed(0x41424344, 0x45464142, 0x43444546, 0x41424344, 0x45464142);
      due("end(20), as many as it has", x.end(20), true);
      due("look(4)", x.look(4), 20);
      due("end(3)", x.end(3), true);
      due("look(4)", x.look(4), 3);
      due("stack()", x.stack(), 3);
      dueText(x, "ABC");
      tape(x, "ABC");
      due("end(0)", x.end(0), true);
      due("stack()", x.stack(), 0);
    });
    sentence("3", "false if it has not so many", () -> {
      ThinCoats x = new ThinCoats();
      dueStays(x, "end(1) of none", () -> x.end(1), false);
      tape(x, "ABC");
      dueStays(x, "end(4)", () -> x.end(4), false);
      dueStays(x, "end of the greatest number", () -> x.end(Integer.MAX_VALUE), false);
      due("stack()", x.stack(), 3);
      dueStays(x, "end(1), it is empty then", () -> x.end(1), false);
    });
    sentence("3", "or n is below 0", () -> {
      ThinCoats x = new ThinCoats();
      dueStays(x, "end(-1) of none", () -> x.end(-1), false);
      tape(x, "ABC");
      dueStays(x, "end(-1)", () -> x.end(-1), false);
      dueStays(x, "end of the least number", () -> x.end(Integer.MIN_VALUE), false);
      due("stack()", x.stack(), 3);
    });
  }

  private static void stack() {
    sentence("4", "THE TAPE (empty then) is the STACK: how many LAYERS.", () -> {
      ThinCoats x = new ThinCoats();
      due("stack() of an empty tape", x.stack(), 0);
      due("it is a change", x.look(3), 1);
      tape(x, "8(ABC)");
      due("stack()", x.stack(), 24);
      due("look(4)", x.look(4), 0);
      due("stack() of an empty tape", x.stack(), 0);
      due("look(0)", x.look(0), 0);
      due("look(3)", x.look(3), 3);
      tape(x, "AB");
      due("stack()", x.stack(), 2);
      tape(x, "A B");
      due("the same again", x.stack(), 2);
      due("it is a change", x.look(3), 5);
    });
    sentence("4", "NONE with a FAULT (all stays).", () -> {
      String[] texts = {"C)", "C0(", "C7/1", "1(1(1(1(1(", "9(9(C))"};
      for (String text : texts) {
        ThinCoats x = of("AB1/2");
        x.show();
        tape(x, text);
        due("stack() of '" + text + "'", x.stack(), NONE);
        due("THE TAPE stays", x.look(4), text.length());
        due("HISTORY stays", x.look(3), 1);
        // Asked once more, it is the same once more.
        dueStays(x, "stack() of '" + text + "'", x::stack, NONE);
        dueText(x, "AB1/2");
        // It is told of the latest one alone: another text is without FAULT.
        tape(x, "CF");
        due("stack() behind '" + text + "'", x.stack(), 2);
        due("fault(0)", x.fault(0), 0);
        due("fault(1)", x.fault(1), NONE);
        dueText(x, "CF");
      }
    });
  }

  private static void fault() {
    sentence("5", "Of the latest stack() what 0 its FAULT (0 without), 1 its place (NONE).", () -> {
      ThinCoats x = new ThinCoats();
      due("fault(0) ahead of all", x.fault(0), 0);
      due("fault(1) ahead of all", x.fault(1), NONE);
      tape(x, "A)");
      x.stack();
      due("fault(0)", x.fault(0), 1);
      due("fault(1)", x.fault(1), 1);
      // Other calls leave it as it is.
      x.end(1);
      x.put(0, 0, 1, 1);
      x.undo();
      due("fault(0)", x.fault(0), 1);
      due("fault(1)", x.fault(1), 1);
      x.stack();
      due("fault(0)", x.fault(0), 0);
      due("fault(1)", x.fault(1), NONE);
    });
    sentence("5", "NONE for another what.", () -> {
      ThinCoats x = new ThinCoats();
      tape(x, "A)");
      x.stack();
      dueOutside("fault(what)", 0, 1, x::fault, NONE);
    });
  }
}
