import java.io.IOException;
import java.nio.file.Files;
import java.nio.file.Path;
import java.util.ArrayList;
import java.util.Comparator;
import java.util.List;
import java.util.Map;
import java.util.TreeMap;
import java.util.function.BooleanSupplier;
import java.util.function.LongSupplier;

/** What the tests of single answers share. */
abstract class Checks {
  static final int NONE = ThinCoats.NONE;
  private static final int[] SLIGHTLY_AND_FAR = {1, 2, 7, 32, 64, 256, 65536, 1 << 30};

  private static int wrong = 0;
  private static String where = "";
  private static final Map<String, List<String>> quoted = new TreeMap<>();

  // ---- what is due ----

  static void due(String call, long got, long want) {
    if (got != want) {
      wrong++;
      System.out.println(where + ": " + call + " answered " + got + ", due is " + want);
    }
  }

  static void due(String call, boolean got, boolean want) {
    due(call, got ? 1L : 0L, want ? 1L : 0L);
  }

  static void dueWords(String what, String got, String want) {
    if (!got.equals(want)) {
      wrong++;
      System.out.println(where + ": " + what + " is '" + got + "', due is '" + want + "'");
    }
  }

  static void promise(String number) {
    where = "promise " + number;
  }

  /**
   * A sentence of the document that names an edge, with its test. The words must stand in the
   * document, in the section of the promise (or of the terms).
   */
  static void sentence(String section, String words, Runnable test) {
    where = section + ", \"" + words + "\"";
    quoted.computeIfAbsent(section, name -> new ArrayList<>()).add(words);
    String text = Document.SECTIONS.get(section);
    if (!Document.SECTIONS.isEmpty() && (text == null || !text.contains(words))) {
      wrong++;
      System.out.println(where + ": these words are not in the document");
    }
    test.run();
  }

  /** Fails for a promise of which a part (more than a word) is quoted by no sentence. */
  static void dueQuoted(int promises) {
    for (int number = 1; number <= promises && !Document.SECTIONS.isEmpty(); number++) {
      where = "promise " + number;
      String rest = Document.SECTIONS.getOrDefault("" + number, "a section that is not there");
      List<String> words = new ArrayList<>(quoted.getOrDefault("" + number, List.of()));
      words.sort(Comparator.comparing(String::length).reversed());
      for (String w : words) rest = rest.replace(w, "");
      due("letters that are not quoted ('" + rest + "')", rest.replaceAll("[^A-Za-z]", "").length() > 4, false);
    }
  }

  static void finish(String allIsWell) {
    System.out.println(wrong == 0 ? allIsWell : wrong + " answers are not as due");
    if (wrong != 0) System.exit(1);
  }

  // ---- stacks ----

  /** THE TAPE has this text alone then. */
  static void tape(ThinCoats x, String text) {
    x.end(0);
    for (int i = 0; i < text.length(); i += 20) {
      int[] n = new int[5];
      for (int k = 0; k < 20; k++) {
        int b = i + k < text.length() ? text.charAt(i + k) : ' ';
        n[k / 4] = n[k / 4] << 8 | b;
      }
      x.feed(n[0], n[1], n[2], n[3], n[4]);
    }
    x.end(text.length());
  }

  /** A new object with this stack, one change old. */
  static ThinCoats of(String text) {
    ThinCoats x = new ThinCoats();
    tape(x, text);
    if (x.stack() < 0) due("stack() of '" + text + "'", -1, 0);
    return x;
  }

  /** The same with indices u, v of A, of B and so on. */
  static ThinCoats ofIndices(String text, int... uv) {
    ThinCoats x = of(text);
    for (int i = 0; i < uv.length; i += 2) x.index(i / 2, uv[i], uv[i + 1]);
    return x;
  }

  /** No layers; light from A (1 by 1) to D (9 by 4), for which a quarter of B (3 by 2) throws nothing back. */
  static ThinCoats toNineByFour() {
    ThinCoats x = new ThinCoats();
    x.index(3, 9, 4);
    x.between(0, 3);
    return x;
  }

  /** Quarters A, C, A, C: at MARKS 1 and 3 TOO FINE from the fourth layer on; at 2 and 4 not. */
  static ThinCoats fine() {
    ThinCoats x = new ThinCoats();
    x.index(0, 9, 8);
    x.index(2, 8, 9);
    tape(x, "2(AC)");
    x.stack();
    return x;
  }

  // ---- what can be seen ----

  static String shown(ThinCoats x) {
    int n = x.show();
    StringBuilder text = new StringBuilder();
    for (int i = 0; i < n; i++) text.append((char) x.out(i));
    return text.toString();
  }

  static void dueText(ThinCoats x, String want) {
    dueWords("the stack", shown(x), want);
  }

  static void dueFault(String text, int fault, int place) {
    ThinCoats x = new ThinCoats();
    tape(x, text);
    due("stack() of '" + text + "'", x.stack(), NONE);
    due("fault(0) of '" + text + "'", x.fault(0), fault);
    due("fault(1) of '" + text + "'", x.fault(1), place);
  }

  static void dueStack(String text, String want) {
    ThinCoats x = of(text);
    due("fault(0) of '" + text + "'", x.fault(0), 0);
    due("fault(1) of '" + text + "'", x.fault(1), NONE);
    dueText(x, want);
  }

  static void dueMatrix(ThinCoats x, int n, int mark, int... want) {
    for (int i = 0; i < 4; i++) due("matrix(" + n + ", " + mark + ", " + i + ")", x.matrix(n, mark, i), want[i]);
  }

  static void dueBack(ThinCoats x, int n, int mark, long above, long below) {
    due("light(" + n + ", " + mark + ", 0)", x.light(n, mark, 0), above);
    due("light(" + n + ", " + mark + ", 1)", x.light(n, mark, 1), below);
  }

  /** All that can be seen of an object without a change of it (what was SHOWN stays, too). */
  static String state(ThinCoats x) {
    StringBuilder all = new StringBuilder();
    for (int i = 0; i < x.look(0); i++) {
      all.append((char) ('A' + x.layer(i, 0))).append(x.layer(i, 1)).append('/').append(x.layer(i, 2)).append(' ');
    }
    all.append("| undo ").append(x.look(3)).append(" tape ").append(x.look(4));
    all.append(" fault ").append(x.fault(0)).append(" at ").append(x.fault(1)).append(" |");
    for (int m = 0; m < 6; m++) {
      all.append(' ').append(x.material(m, 0)).append('/').append(x.material(m, 1));
      all.append(x.material(m, 2) == 1 ? "<" : "").append(x.material(m, 3) == 1 ? ">" : "");
    }
    all.append(" | shown ");
    for (int i = 0; i < 100 && x.out(i) >= 0; i++) all.append((char) x.out(i));
    return all.toString();
  }

  /** The call answers so, and nothing that can be seen is another one behind it. */
  static void dueStays(ThinCoats x, String call, LongSupplier asks, long want) {
    String before = state(x);
    due(call, asks.getAsLong(), want);
    dueWords("behind " + call + " what is there", state(x), before);
  }

  static void dueStays(ThinCoats x, String call, BooleanSupplier asks, boolean want) {
    dueStays(x, call, () -> asks.getAsBoolean() ? 1L : 0L, want ? 1L : 0L);
  }

  interface OfOne {
    long answer(int n);
  }

  /** Of numbers below the least and above the greatest one, nearby and far off, each answer is the one due. */
  static void dueOutside(String call, int least, int greatest, OfOne asks, long want) {
    due(call + " of " + Integer.MIN_VALUE, asks.answer(Integer.MIN_VALUE), want);
    due(call + " of " + Integer.MAX_VALUE, asks.answer(Integer.MAX_VALUE), want);
    for (int by : SLIGHTLY_AND_FAR) {
      due(call + " of " + (least - by), asks.answer(least - by), want);
      due(call + " of " + (greatest + by), asks.answer(greatest + by), want);
    }
  }

  /** The document by its sections: "Terms", "1" .. "34"; empty where it is not at hand. */
  private static final class Document {
    static final Map<String, String> SECTIONS = read(Path.of("../shared/DOC.md"));

    private static Map<String, String> read(Path path) {
      Map<String, String> all = new TreeMap<>();
      if (!Files.isReadable(path)) return all;
      try {
        for (String part : Files.readString(path).split("\n## ")) {
          String head = part.substring(0, Math.max(0, part.indexOf('\n')));
          String name = head.startsWith("Promise ") ? head.substring(8, head.indexOf(':')) : head;
          // Of a promise what is behind its signature.
          String text = head.startsWith("Promise ") ? part.substring(part.indexOf("`: ") + 3) : part;
          all.put(name, text.replace("`", "").replaceAll("\\s+", " "));
        }
      } catch (IOException e) {
        throw new IllegalStateException(e);
      }
      return all;
    }
  }
}
