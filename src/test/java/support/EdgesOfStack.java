/** The edges of MATERIALS, of the STACK and of its HISTORY: promises 6 to 13, 29 to 32 and 34. */
final class EdgesOfStack extends Checks {
  private static final int LEAST = Integer.MIN_VALUE;
  private static final int MOST = Integer.MAX_VALUE;
  private static final String FULL = "8(A B1/2 Ch)";

  static void run() {
    index();
    between();
    material();
    layer();
    put();
    cut();
    turn();
    undo();
    history();
    merge();
    mergeRefused();
    period();
    show();
    out();
    look();
  }

  private static void index() {
    sentence("Terms", "each with an INDEX u by v (1 .. 9 each; in lowest terms as it counts)", () -> {
      for (int u = 1; u <= 9; u++) {
        for (int v = 1; v <= 9; v++) {
          ThinCoats x = new ThinCoats();
          x.index(4, u, v);
          due(u + " by " + v, (long) x.material(4, 0) * v, (long) x.material(4, 1) * u);
          for (int d = 2; d <= 9; d++) due("lowest", x.material(4, 0) % d == 0 && x.material(4, 1) % d == 0, false);
        }
      }
      // As it counts: a layer of 6 by 4 is one of 3 by 2.
      dueMatrix(ofIndices("C1/2", 1, 1, 3, 2, 6, 4), 1, 1, 9, 8, 18, 9);
    });
    sentence("6", "INDEX of a MATERIAL (0 A .. 5 F) is u by v: true", () -> {
      ThinCoats x = new ThinCoats();
      due("index(0, 9, 1)", x.index(0, 9, 1), true);
      due("index(5, 1, 9)", x.index(5, 1, 9), true);
      due("index(2, 8, 6)", x.index(2, 8, 6), true);
      dueWords("what is there", state(x), "| undo 0 tape 0 fault 0 at -1 | 9/1< 3/2> 4/3 4/3 5/2 1/9 | shown ");
    });
    sentence("6", "false if one can't be", () -> {
      ThinCoats x = of("AB");
      int[][] bad = {{-1, 7, 5}, {6, 7, 5}, {LEAST, 7, 5}, {MOST, 7, 5}, {0, 0, 5}, {0, -7, 5}, {0, 10, 7}, {0, LEAST, 5},
        {0, MOST, 5}, {0, 7, 0}, {0, 7, -5}, {0, 7, 10}, {0, 7, LEAST}, {0, 7, MOST}, {0, -7, -5}, {0, 0, 0}};
      String before = state(x);
      for (int[] b : bad) due("index(" + b[0] + ", " + b[1] + ", " + b[2] + ")", x.index(b[0], b[1], b[2]), false);
      dueWords("what is there", state(x), before);
    });
    sentence("6", "or it is that", () -> {
      ThinCoats x = new ThinCoats();
      dueStays(x, "index(1, 3, 2)", () -> x.index(1, 3, 2), false);
      dueStays(x, "index(1, 6, 4)", () -> x.index(1, 6, 4), false);
      dueStays(x, "index(1, 9, 6)", () -> x.index(1, 9, 6), false);
      dueStays(x, "index(0, 9, 9)", () -> x.index(0, 9, 9), false);
      due("index(1, 2, 3)", x.index(1, 2, 3), true);
      dueStays(x, "index(1, 2, 3) again", () -> x.index(1, 2, 3), false);
      due("index(1, 3, 2)", x.index(1, 3, 2), true);
    });
  }

  private static void between() {
    sentence("7", "Light comes from a MATERIAL, the GROUND is one: true", () -> {
      ThinCoats x = new ThinCoats();
      due("between(5, 0)", x.between(5, 0), true);
      dueWords("what is there", state(x), "| undo 0 tape 0 fault 0 at -1 | 1/1> 3/2 2/1 4/3 5/2 3/1< | shown ");
      due("between(5, 5), one for both", x.between(5, 5), true);
      dueWords("what is there", state(x), "| undo 0 tape 0 fault 0 at -1 | 1/1 3/2 2/1 4/3 5/2 3/1<> | shown ");
      due("between(0, 5), the first alone", x.between(0, 5), true);
      due("between(0, 1), the second alone", x.between(0, 1), true);
    });
    sentence("7", "false if there are none such", () -> {
      ThinCoats x = of("AB");
      int[][] bad = {{-1, 2}, {6, 2}, {LEAST, 2}, {MOST, 2}, {2, -1}, {2, 6}, {2, LEAST}, {2, MOST}, {-1, -1}, {6, 6}};
      for (int[] b : bad) dueStays(x, "between(" + b[0] + ", " + b[1] + ")", () -> x.between(b[0], b[1]), false);
    });
    sentence("7", "or it is so", () -> {
      ThinCoats x = new ThinCoats();
      dueStays(x, "between(0, 1)", () -> x.between(0, 1), false);
      due("between(1, 0)", x.between(1, 0), true);
      dueStays(x, "between(1, 0)", () -> x.between(1, 0), false);
      due("between(0, 1)", x.between(0, 1), true);
    });
  }

  private static void material() {
    sentence("8", "Of a MATERIAL what 0, 1 its INDEX u, v (in lowest terms)", () -> {
      ThinCoats x = new ThinCoats();
      x.index(5, 8, 6);
      due("material(5, 0)", x.material(5, 0), 4);
      due("material(5, 1)", x.material(5, 1), 3);
    });
    sentence("8", "2 1 light comes from it, 3 1 it is the GROUND", () -> {
      ThinCoats x = new ThinCoats();
      x.between(5, 3);
      for (int m = 0; m < 6; m++) {
        due("material(" + m + ", 2)", x.material(m, 2), m == 5 ? 1 : 0);
        due("material(" + m + ", 3)", x.material(m, 3), m == 3 ? 1 : 0);
      }
    });
    sentence("8", "4 how many LAYERS are of it", () -> {
      due("of no layers", new ThinCoats().material(0, 4), 0);
      ThinCoats x = of("8(F1/2 F Fh)");
      due("of all", x.material(5, 4), 24);
      due("of none", x.material(0, 4), 0);
      x = of("A F A0/1 B Ah");
      due("of A", x.material(0, 4), 3);
      due("of F", x.material(5, 4), 1);
    });
    sentence("8", "NONE if there is none such", () -> {
      ThinCoats x = of("ABCDEF");
      for (int what = 0; what <= 4; what++) {
        int w = what;
        dueOutside("material(m, " + what + ")", 0, 5, m -> x.material(m, w), NONE);
      }
    });
    sentence("8", "or another what", () -> {
      ThinCoats x = of("ABCDEF");
      dueOutside("material(0, what)", 0, 4, what -> x.material(0, what), NONE);
      dueOutside("material(5, what)", 0, 4, what -> x.material(5, what), NONE);
    });
  }

  private static void layer() {
    sentence("9", "Of LAYER i what 0 its MATERIAL, 1, 2 p, q of its TANGENT, 3, 4 P, Q at MARK 2, 5, 6 at MARK 3, 7, 8 at MARK 4", () -> {
      // 3 + i: 8 + 6 i, 18 + 26 i, 28 + 96 i; 6 + 5 i: 11 + 60 i, - 234 + 415 i, - 3479 + 1320 i.
      int[][] want = {{5, 1, 3, 3, 4, 13, 9, 24, 7}, {0, 5, 6, 60, 11, -415, 234, -1320, 3479}};
      ThinCoats x = of("F2/6 A5/6");
      for (int i = 0; i < 2; i++) {
        for (int what = 0; what <= 8; what++) due("layer(" + i + ", " + what + ")", x.layer(i, what), want[i][what]);
      }
    });
    sentence("9", "(NONE - 9999 if there is none such, or another what)", () -> {
      ThinCoats none = new ThinCoats();
      dueOutside("layer(i, 0) of none", -1, -1, i -> none.layer(i, 0), -10000);
      ThinCoats x = of("ABC");
      dueOutside("layer(i, 0)", -1, 2, i -> x.layer(i, 0), -10000);
      dueOutside("layer(i, 8)", -1, 2, i -> x.layer(i, 8), -10000);
      dueOutside("layer(2, what)", 0, 8, what -> x.layer(2, what), -10000);
      due("layer(2, 0)", x.layer(2, 0), 2);
      ThinCoats full = of(FULL);
      due("layer(23, 0)", full.layer(23, 0), 2);
      due("layer(24, 0)", full.layer(24, 0), -10000);
    });
    sentence("9", "i NONE: how many.", () -> {
      due("layer(NONE, 0) of none", new ThinCoats().layer(NONE, 0), 0);
      due("layer(NONE, 0)", of("ABC").layer(NONE, 0), 3);
      due("layer(NONE, 0)", of(FULL).layer(NONE, 0), 24);
      due("layer(NONE, 8)", of("ABC").layer(NONE, 8), 3);
      due("layer(NONE, 9)", of("ABC").layer(NONE, 9), 3);
    });
  }

  private static void put() {
    sentence("10", "A LAYER is put ahead of LAYER i (0 .. how many): how many then.", () -> {
      ThinCoats x = new ThinCoats();
      due("put(0)", x.put(0, 2, 1, 2), 1);
      due("put(0), ahead of all", x.put(0, 0, 2, 6), 2);
      due("put(2), behind all", x.put(2, 5, 1, 0), 3);
      due("put(1), between", x.put(1, 1, 6, 6), 4);
      dueText(x, "A1/3BC1/2Fh");
      due("each is a change", x.look(3), 4);
    });
    sentence("10", "NONE if one can't be (MATERIAL; TANGENT p by q as of a TEXT, 1 by 0 too)", () -> {
      ThinCoats x = of("AB");
      x.show();
      int[][] bad = {{-1, 0, 1, 1}, {3, 0, 1, 1}, {LEAST, 0, 1, 1}, {MOST, 0, 1, 1},
        {0, -1, 1, 1}, {0, 6, 1, 1}, {0, LEAST, 1, 1}, {0, MOST, 1, 1},
        {0, 0, -1, 1}, {0, 0, 7, 1}, {0, 0, LEAST, 1}, {0, 0, MOST, 1},
        {0, 0, 1, -1}, {0, 0, 1, 7}, {0, 0, 1, LEAST}, {0, 0, 1, MOST},
        {0, 0, 0, 0}, {0, 0, 2, 0}, {0, 0, 6, 0}, {0, 0, -1, 0}, {0, 0, -1, -1}};
      String before = state(x);
      for (int[] b : bad) {
        due("put(" + b[0] + ", " + b[1] + ", " + b[2] + ", " + b[3] + ")", x.put(b[0], b[1], b[2], b[3]), NONE);
      }
      dueWords("what is there", state(x), before);
      int[][] good = {{0, 1}, {0, 6}, {6, 1}, {6, 6}, {1, 6}, {1, 0}};
      for (int k = 0; k < good.length; k++) due("put", x.put(0, k, good[k][0], good[k][1]), 3 + k);
      dueText(x, "FhE1/6DC6/1B0/1A0/1AB");
    });
    sentence("10", "or there are 24", () -> {
      ThinCoats x = of(FULL);
      dueStays(x, "put(0) of 24", () -> x.put(0, 0, 1, 1), NONE);
      dueStays(x, "put(24) of 24", () -> x.put(24, 0, 1, 1), NONE);
      x.cut(0);
      due("put(23) of 23", x.put(23, 5, 1, 1), 24);
      due("layer(23, 0)", x.layer(23, 0), 5);
    });
  }

  private static void cut() {
    sentence("11", "LAYER i goes: how many are left.", () -> {
      ThinCoats x = of("ABCD");
      due("cut(1), between", x.cut(1), 3);
      dueText(x, "ACD");
      due("cut(0), the first", x.cut(0), 2);
      due("cut(1), the last", x.cut(1), 1);
      dueText(x, "C");
      due("cut(0), the only one", x.cut(0), 0);
      dueText(x, "");
      due("each is a change", x.look(3), 5);
      due("cut(23) of 24", of(FULL).cut(23), 23);
    });
    sentence("11", "NONE if there is none such.", () -> {
      ThinCoats none = new ThinCoats();
      dueStays(none, "cut(0) of none", () -> none.cut(0), NONE);
      ThinCoats x = of("ABC");
      String before = state(x);
      dueOutside("cut(i)", 0, 2, x::cut, NONE);
      dueWords("what is there", state(x), before);
    });
  }

  private static void turn() {
    sentence("12", "The STACK is turned round (the last LAYER first), light comes from the GROUND and the other way round: true", () -> {
      ThinCoats x = of("AB1/2Ch");
      x.between(4, 5);
      due("turn()", x.turn(), true);
      dueWords("what is there", state(x),
          "C1/0 B1/2 A1/1 | undo 2 tape 0 fault 0 at -1 | 1/1 3/2 2/1 4/3 5/2> 3/1< | shown ");
      due("turn() again", x.turn(), true);
      dueWords("what is there", state(x),
          "A1/1 B1/2 C1/0 | undo 3 tape 0 fault 0 at -1 | 1/1 3/2 2/1 4/3 5/2< 3/1> | shown ");
    });
    sentence("12", "false, nothing done, if that changes nothing", () -> {
      ThinCoats none = new ThinCoats();
      none.between(0, 0);
      dueStays(none, "turn() of none", none::turn, false);
      String[] same = {"A", "AA", "ABA", "ABBA", "AB1/2A", "AhBAh", "4(AB CC BA)"};
      String[] others = {"AB", "AAh", "ABAA", "AB1/2B1/3A", "A1/2BA2/1", "4(AB CC BD)"};
      for (String text : same) {
        ThinCoats x = of(text);
        x.between(2, 2);
        dueStays(x, "turn() of " + text, x::turn, false);
        // What is the same turned round is another one where the two sides are.
        x.between(2, 3);
        due("turn() of " + text + ", sides alone", x.turn(), true);
        due("it is a change", x.look(3), 2);
      }
      for (String text : others) {
        ThinCoats x = of(text);
        x.between(2, 2);
        due("turn() of " + text + ", layers alone", x.turn(), true);
        due("it is a change", x.look(3), 2);
      }
      // Two materials with one INDEX are two.
      ThinCoats x = new ThinCoats();
      x.index(1, 1, 1);
      due("turn() of none", x.turn(), true);
    });
  }

  private static void undo() {
    sentence("13", "The latest change of the STACK (stack(), put(), cut(), turn(), wanted(), tune(), add(), merge()) is undone", () -> {
      ThinCoats x = toNineByFour();
      tape(x, "B1/2B1/2");
      x.stack();
      String before = state(x);
      due("put", x.put(1, 0, 1, 1), 3);
      dueUndone(x, before);
      due("cut", x.cut(0), 1);
      dueUndone(x, before);
      due("turn", x.turn(), true);
      dueUndone(x, before);
      due("wanted", x.wanted(1, 63, 127, 1), 1);
      dueUndone(x, before);
      due("tune", x.tune(0, 1) >= 0, true);
      dueUndone(x, before);
      due("add", x.add(1, 63, 127) >= 0, true);
      dueUndone(x, before);
      due("merge", x.merge(0), 1);
      dueUndone(x, before);
      tape(x, "ABC");
      due("stack", x.stack(), 3);
      dueUndone(x, before);
      due("undo() of the first one", x.undo(), true);
      due("look(0)", x.look(0), 0);
    });
    sentence("13", "of turn() light comes from the GROUND as it is now and the other way round, too", () -> {
      ThinCoats x = of("AB");
      x.turn();
      x.between(4, 5);
      due("undo()", x.undo(), true);
      dueWords("what is there", state(x),
          "A1/1 B1/1 | undo 1 tape 0 fault 0 at -1 | 1/1 3/2 2/1 4/3 5/2> 3/1< | shown ");
      // Of a turn of LAYERS alone, too, if the sides are two by then.
      x.between(2, 2);
      x.turn();
      x.between(0, 1);
      due("undo()", x.undo(), true);
      due("from", x.material(1, 2), 1);
      due("ground", x.material(0, 3), 1);
    });
    sentence("13", "else from where it comes stays", () -> {
      ThinCoats x = of("AB");
      x.put(0, 0, 1, 1);
      x.turn();
      x.put(0, 0, 1, 1);
      x.between(4, 5);
      x.index(0, 7, 9);
      due("undo() of put()", x.undo(), true);
      due("from", x.material(4, 2), 1);
      due("ground", x.material(5, 3), 1);
      due("INDEX stays", x.material(0, 0), 7);
      due("undo() of turn()", x.undo(), true);
      due("from", x.material(5, 2), 1);
      due("undo() of put()", x.undo(), true);
      due("from", x.material(5, 2), 1);
      due("undo() of stack()", x.undo(), true);
      due("from", x.material(5, 2), 1);
      due("INDEX stays", x.material(0, 0), 7);
    });
    sentence("13", "false if there is none", () -> {
      ThinCoats x = new ThinCoats();
      dueStays(x, "undo() of none", x::undo, false);
      // These are no changes of the STACK.
      x.index(0, 7, 9);
      x.between(3, 4);
      x.feed(0, 0, 0, 0, 0);
      x.end(1);
      x.stack();
      x.show();
      dueStays(x, "undo() of none", x::undo, false);
      x.put(0, 0, 1, 1);
      due("undo()", x.undo(), true);
      dueStays(x, "undo() of none", x::undo, false);
    });
  }

  private static void dueUndone(ThinCoats x, String before) {
    due("it is a change", x.look(3), 2);
    due("undo()", x.undo(), true);
    dueWords("behind undo() what is there", state(x), before);
  }

  private static void history() {
    sentence("Terms", "HISTORY: each change of the STACK can be undone, 10 at most (the oldest goes).", () -> {
      ThinCoats x = new ThinCoats();
      for (int i = 1; i <= 10; i++) {
        x.put(0, 0, 1, 1);
        due("look(3)", x.look(3), i);
      }
      for (int i = 10; i >= 1; i--) {
        due("undo()", x.undo(), true);
        due("look(0)", x.look(0), i - 1);
        due("look(3)", x.look(3), i - 1);
      }
      due("undo() of none", x.undo(), false);
      for (int i = 1; i <= 11; i++) x.put(0, 0, 1, 1);
      due("look(3) of 11", x.look(3), 10);
      for (int i = 1; i <= 10; i++) due("undo()", x.undo(), true);
      due("the oldest went", x.undo(), false);
      due("look(0)", x.look(0), 1);
    });
    sentence("Terms", "10 at most (the oldest goes)", () -> {
      // Round and round: what was undone makes room again.
      ThinCoats x = new ThinCoats();
      for (int i = 1; i <= 23; i++) x.put(0, 0, 1, 1);
      for (int i = 1; i <= 4; i++) x.undo();
      due("look(0)", x.look(0), 19);
      due("look(3)", x.look(3), 6);
      for (int i = 1; i <= 5; i++) x.cut(0);
      due("look(0)", x.look(0), 14);
      due("look(3)", x.look(3), 10);
      int[] back = {15, 16, 17, 18, 19, 18, 17, 16, 15, 14};
      for (int want : back) {
        due("undo()", x.undo(), true);
        due("look(0)", x.look(0), want);
      }
      due("undo() of none", x.undo(), false);
      // A turn that is the oldest goes like others.
      ThinCoats y = of("AB");
      y.turn();
      for (int i = 1; i <= 10; i++) y.put(0, 0, 1, 1);
      for (int i = 1; i <= 10; i++) due("undo()", y.undo(), true);
      due("undo() of none", y.undo(), false);
      due("from, as turned", y.material(1, 2), 1);
      dueText(y, "BA");
    });
  }

  private static void merge() {
    sentence("29", "LAYERS i and i and 1 of one MATERIAL become one: its TANGENT is (p q' + p' q) by (q q' - p p'), in lowest terms", () -> {
      dueMerged("B1/2B1/3", "B");
      dueMerged("B1/2B1/2", "B4/3");
      dueMerged("B1/6B2/5", null);
      dueMerged("B1/4B3/5", "B");
      dueMerged("B0/1B5/6", "B5/6");
      dueMerged("B5/6B0/1", "B5/6");
      dueMerged("B0/1B0/1", "B0/1");
      ThinCoats x = of("A C1/2 C1/3 F");
      due("merge(1)", x.merge(1), 3);
      dueText(x, "ACF");
      due("it is a change", x.look(3), 2);
      ThinCoats full = of("8(A B1/2 B1/3)");
      due("merge(22), the last two", full.merge(22), 23);
      due("layer(22, 2)", full.layer(22, 2), 1);
    });
    sentence("29", "(is what is below less than 0, both signs turn): how many are left.", () -> {
      // Two halves: 0 by - 1. A half and 3 by 1: 1 by - 3, which is - 1 by 3.
      dueMerged("BhBh", "B0/1");
      dueMerged("BhB3/1", null);
      dueMerged("B2/1B1/1", null);
      dueMerged("BhB", null);
    });
  }

  /** The two layers become that one, or (null) nothing is done. */
  private static void dueMerged(String text, String want) {
    ThinCoats x = of(text);
    if (want == null) {
      dueStays(x, "merge(0) of " + text, () -> x.merge(0), NONE);
    } else {
      due("merge(0) of " + text, x.merge(0), 1);
      dueText(x, want);
    }
  }

  private static void mergeRefused() {
    sentence("29", "NONE, and nothing is done: there are none such", () -> {
      ThinCoats none = new ThinCoats();
      dueStays(none, "merge(0) of none", () -> none.merge(0), NONE);
      ThinCoats one = of("B");
      dueStays(one, "merge(0) of one", () -> one.merge(0), NONE);
      dueStays(one, "merge(-1) of one", () -> one.merge(-1), NONE);
      ThinCoats x = of("BBB");
      String before = state(x);
      dueOutside("merge(i)", 0, 1, x::merge, NONE);
      dueWords("what is there", state(x), before);
      // Behind the last one is none, though one was there.
      x.cut(2);
      dueStays(x, "merge(1) of two", () -> x.merge(1), NONE);
      x.cut(1);
      dueStays(x, "merge(0) of one", () -> x.merge(0), NONE);
      ThinCoats full = of("8(3(B))");
      dueStays(full, "merge(23) of 24", () -> full.merge(23), NONE);
    });
    sentence("29", "of unlike MATERIALS", () -> {
      ThinCoats x = of("B1/2 C1/2");
      dueStays(x, "merge(0)", () -> x.merge(0), NONE);
      x.index(2, 3, 2);
      dueStays(x, "merge(0), of one INDEX", () -> x.merge(0), NONE);
    });
    sentence("29", "both parts are not 0 .. 6 by 1 .. 6 or a half (1 by 0) then", () -> {
      dueMerged("BB", "Bh");
      dueMerged("B2/1B1/2", "Bh");
      dueMerged("B0/1Bh", "Bh");
      dueMerged("B6/1B0/1", "B6/1");
      dueMerged("B0/1B1/6", "B1/6");
      dueMerged("B2/3B1/1", "B5/1");
      dueMerged("B1/3B1/3", "B3/4");
      // 7 by 1, 6 by 7, 7 by 9, 11 by 29, - 3 by 1, - 1 by 6.
      dueMerged("B3/4B1/1", null);
      dueMerged("B1/1B3/4", null);
      dueMerged("B1/4B1/2", null);
      dueMerged("B1/2B1/5", null);
      dueMerged("B1/5B1/6", null);
      dueMerged("B2/1B1/1", null);
      dueMerged("BhB6/1", null);
    });
  }

  private static void period() {
    sentence("30", "The least n of which the STACK is a row of n LAYERS so many times (what 0), how many times (1)", () -> {
      duePeriod("A", 1, 1);
      duePeriod("AA", 1, 2);
      duePeriod("AAh", 2, 1);
      duePeriod("ABA", 3, 1);
      duePeriod("ABAB", 2, 2);
      duePeriod("ABABA", 5, 1);
      duePeriod("AABAAB", 3, 2);
      duePeriod("A1/2 A A1/2 A A1/2 A", 2, 3);
      duePeriod("8(3(A))", 1, 24);
      duePeriod("2(6(A)5(B)C)", 12, 2);
      duePeriod("3(7(A)B)", 8, 3);
      duePeriod("8(ABA)", 3, 8);
    });
    sentence("30", "0 without LAYERS", () -> {
      due("period(0)", new ThinCoats().period(0), 0);
      due("period(1)", new ThinCoats().period(1), 0);
    });
    sentence("30", "NONE for another what.", () -> {
      dueOutside("period(what)", 0, 1, of("ABAB")::period, NONE);
      dueOutside("period(what) of none", 0, 1, new ThinCoats()::period, NONE);
    });
  }

  private static void duePeriod(String text, int n, int times) {
    ThinCoats x = of(text);
    due("period(0) of " + text, x.period(0), n);
    due("period(1) of " + text, x.period(1), times);
  }

  private static void show() {
    sentence("31", "The STACK is SHOWN as a TEXT without blanks and repetitions, THICK (p by q) where it isn't a quarter: how many bytes.", () -> {
      due("show() of none", new ThinCoats().show(), 0);
      due("show() of quarters", of("8(ABC)").show(), 24);
      due("show() of the longest", of("8(3(F5/6))").show(), 96);
      ThinCoats x = of("2( A 2/2  Fh ) C0/6 D 4/6");
      due("show()", x.show(), 14);
      dueText(x, "AFhAFhC0/1D2/3");
      // As a TEXT it is the STACK again.
      String text = shown(of("3(A 6/1 B 2(Ch D 1/6))"));
      dueStack(text, text);
      due("show() is no change", x.look(3), 1);
    });
  }

  private static void out() {
    sentence("32", "The i-th byte of what was SHOWN latest.", () -> {
      ThinCoats x = of("AhB");
      x.show();
      due("out(0)", x.out(0), 'A');
      due("out(1)", x.out(1), 'h');
      due("out(2)", x.out(2), 'B');
      // What comes later doesn't change it.
      x.cut(0);
      x.undo();
      x.turn();
      due("out(0)", x.out(0), 'A');
      x.show();
      due("out(0)", x.out(0), 'B');
      ThinCoats full = of("8(3(F5/6))");
      full.show();
      due("out(95)", full.out(95), '6');
      due("out(92)", full.out(92), 'F');
    });
    sentence("32", "NONE if there is none such.", () -> {
      dueOutside("out(i), nothing was SHOWN", 0, -1, new ThinCoats()::out, NONE);
      ThinCoats unshown = of("ABC");
      due("out(0), nothing was SHOWN", unshown.out(0), NONE);
      ThinCoats x = of("AhB");
      x.show();
      dueOutside("out(i)", 0, 2, x::out, NONE);
      x.cut(1);
      x.show();
      due("out(2), a shorter one was SHOWN", x.out(2), NONE);
      x.cut(0);
      x.show();
      due("out(0), nothing was SHOWN latest", x.out(0), NONE);
      ThinCoats full = of("8(3(F5/6))");
      full.show();
      due("out(96)", full.out(96), NONE);
    });
  }

  private static void look() {
    sentence("34", "0 LAYERS, 1 MATERIALS that the STACK has (bits), 2 whether it is the same turned round (LAYERS alone)", () -> {
      dueLook(new ThinCoats(), 0, 0, 1);
      dueLook(of("A"), 1, 1, 1);
      dueLook(of("FAF"), 3, 33, 1);
      dueLook(of("FAFh"), 3, 33, 0);
      dueLook(of("A1/2A1/3"), 2, 1, 0);
      dueLook(of("ABCDEF"), 6, 63, 0);
      dueLook(of("8(ABA)"), 24, 3, 1);
      // From one side to another, and still the same: LAYERS alone.
      ThinCoats x = of("BAB");
      x.between(4, 5);
      dueLook(x, 3, 3, 1);
    });
    sentence("34", "3 changes that can be undone, 4 bytes of THE TAPE", () -> {
      ThinCoats x = new ThinCoats();
      due("look(3)", x.look(3), 0);
      due("look(4)", x.look(4), 0);
      for (int i = 0; i < 10; i++) x.feed(0, 0, 0, 0, 0);
      for (int i = 0; i < 12; i++) x.put(0, 0, 1, 1);
      due("look(3)", x.look(3), 10);
      due("look(4)", x.look(4), 200);
    });
    sentence("34", "5 halves, 6 quarters", () -> {
      due("look(5) of none", new ThinCoats().look(5), 0);
      due("look(6) of none", new ThinCoats().look(6), 0);
      ThinCoats x = of("Ah B 6(C3/3) D0/1 E1/6 F6/1");
      due("look(5)", x.look(5), 1);
      due("look(6)", x.look(6), 7);
      due("look(5) of 24", of("8(3(Ah))").look(5), 24);
      due("look(6) of 24", of("8(3(A))").look(6), 24);
    });
    sentence("34", "NONE for another what.", () -> {
      dueOutside("look(what)", 0, 6, of("ABAB")::look, NONE);
    });
  }

  private static void dueLook(ThinCoats x, int layers, int materials, int same) {
    due("look(0)", x.look(0), layers);
    due("look(1)", x.look(1), materials);
    due("look(2)", x.look(2), same);
  }
}
