import java.util.ArrayList;
import java.util.List;
import java.util.TreeSet;
import java.util.function.IntFunction;

/**
 * The boundary cases that the document names, sentence by sentence, in its order: sections 1 to 9 of "Description", then
 * what the promises say besides. Each sentence is quoted, or told, above what tests it.
 */
public final class BoundariesTest {
  interface Asked {
    Object ask();
  }

  private static final String INDEX = "IndexOutOfBoundsException";
  private static final String ARGUMENT = "IllegalArgumentException";
  private static final String STATE = "IllegalStateException";

  private static int wrong = 0;
  private static Wordbefore w = new Wordbefore();
  private static final List<String> PIECES = new ArrayList<>();

  static {
    for (int piece = 0; piece < 96; piece++) {
      PIECES.add(w.piece(piece));
    }
  }

  private static String answer(Asked asked) {
    try {
      return String.valueOf(asked.ask());
    } catch (RuntimeException e) {
      return e.getClass().getSimpleName();
    }
  }

  private static void due(Object want, Asked asked) {
    String got = answer(asked);
    if (!got.equals(String.valueOf(want))) {
      wrong++;
      StackTraceElement at = Thread.currentThread().getStackTrace()[2];
      System.out.println("line " + at.getLineNumber() + ": answered " + got + ", due is " + want);
    }
  }

  /** Each of these calls throws just this, and none of them changes anything that is seen. */
  private static void refused(String exception, Asked... calls) {
    for (Asked call : calls) {
      long before = w.digest();
      String got = answer(call);
      String after = w.digest() == before ? "" : ", and something changed";
      if (!got.equals(exception) || !after.isEmpty()) {
        wrong++;
        StackTraceElement at = Thread.currentThread().getStackTrace()[2];
        System.out.println("line " + at.getLineNumber() + ": answered " + got + after + ", due is " + exception);
      }
    }
  }

  /** The PIECES by which a text can be typed. */
  private static List<Integer> pieces(String text) {
    List<Integer> list = new ArrayList<>();
    if (!typed(text, list)) {
      throw new AssertionError(text);
    }
    return list;
  }

  private static boolean typed(String text, List<Integer> list) {
    for (int length = Math.min(12, text.length()); length > 0; length--) {
      int piece = PIECES.indexOf(text.substring(0, length));
      if (piece > 0) {
        list.add(piece);
        if (typed(text.substring(length), list)) {
          return true;
        }
        list.remove(list.size() - 1);
      }
    }
    return text.isEmpty();
  }

  private static void types(int file, String text) {
    List<Integer> list = pieces(text);
    while (list.size() % 5 != 0 || list.isEmpty()) {
      list.add(0);
    }
    for (int i = 0; i < list.size(); i += 5) {
      if (i == 0) {
        w.line(file, list.get(0), list.get(1), list.get(2), list.get(3), list.get(4));
      } else {
        w.more(file, list.get(i), list.get(i + 1), list.get(i + 2), list.get(i + 3), list.get(i + 4));
      }
    }
  }

  /** FILES on a new object, from FILE 0 on; the LINES of each are parted by a line feed. */
  private static void files(String... files) {
    w = new Wordbefore();
    for (int file = 0; file < files.length; file++) {
      fill(file, files[file]);
    }
  }

  private static void fill(int file, String lines) {
    for (String line : lines.split("\n", -1)) {
      types(file, line);
    }
  }

  /** A text on as many LINES as it needs, all of them JOINED. */
  private static String lines(String text) {
    StringBuilder b = new StringBuilder();
    for (int i = 0; i < text.length(); i++) {
      b.append(i > 0 && i % 47 == 0 ? "\\\n" : "").append(text.charAt(i));
    }
    return b.toString();
  }

  private static String n(String s, int times) {
    return s.repeat(times);
  }

  private static String all(int count, IntFunction<Object> each) {
    StringBuilder b = new StringBuilder();
    for (int i = 0; i < count; i++) {
      b.append(i > 0 ? "|" : "").append(each.apply(i));
    }
    return b.toString();
  }

  /** What a RUN of FILE 0 gives: its OUT LINES. */
  private static String run(String... files) {
    files(files);
    w.run(0);
    return out();
  }

  private static String out() {
    return all(w.ofRun(1), i -> w.outLine(i));
  }

  /** The errors of a RUN of FILE 0: KIND, FILE and LINE of TOLD, and text. */
  private static String errors(String... files) {
    run(files);
    return errors();
  }

  private static String errors() {
    return all(w.ofRun(2), i -> w.ofError(i, 0) + "@" + w.ofError(i, 1) + "." + w.ofError(i, 2) + " " + w.errorText(i));
  }

  private static String line(int count, IntFunction<Object> each) {
    return all(count, each).replace('|', ' ');
  }

  private static String ofOut(int k) {
    return line(9, what -> w.ofOut(k, what));
  }

  private static String chain(int k) {
    return line(w.ofOut(k, 3), i -> w.chain(k, i));
  }

  private static String words(String text) {
    files(text);
    return all(w.words(0, 0), k -> w.word(0, 0, k));
  }

  private static Object reckon(String text) {
    files(text);
    return w.reckon(0, 0);
  }

  private static String ofDesk() {
    return line(8, what -> w.ofDesk(what));
  }

  /** The DESK with the row of a text, after a RUN of FILE 0 with other texts. */
  private static void desk(String defines, String text) {
    files(defines, text);
    w.run(0);
    w.load(1, 0);
  }

  // ---- 1. Typing

  private static void typing() {
    // "FILES: 0 to 3, without LINES at first."
    files();
    due("0|0|0|0", () -> all(4, file -> w.ofFile(file, 0)));
    due("1|1|1|1", () -> all(4, file -> w.line(file, 2, 0, 0, 0, 0)));
    for (int f : new int[] {-1, 4, Integer.MIN_VALUE, Integer.MAX_VALUE}) {
      refused(INDEX, () -> w.line(f, 0, 0, 0, 0, 0), () -> w.more(f, 0, 0, 0, 0, 0), () -> w.strike(f, 0),
          () -> w.empty(f), () -> w.text(f, 0), () -> w.words(f, 0), () -> w.word(f, 0, 0), () -> w.ofWord(f, 0, 0, 0),
          () -> w.number(f, 0, 0), () -> w.plain(f, 0), () -> w.quoted(f, 0), () -> w.again(f, 0, 0), () -> w.run(f),
          () -> w.ofFile(f, 0), () -> w.reckon(f, 0), () -> w.would(f, 0), () -> w.ofWould(f, 0, 0), () -> w.load(f, 0));
    }
    // "A FILE has at most 10 LINES, numbered from 0"
    files();
    for (int i = 0; i < 10; i++) {
      int lines = i + 1;
      due(lines, () -> w.line(3, 2, 0, 0, 0, 0));
    }
    refused(STATE, () -> w.line(3, 2, 0, 0, 0, 0));
    due("A", () -> w.text(3, 9));
    for (int l : new int[] {-1, 10, Integer.MIN_VALUE, Integer.MAX_VALUE}) {
      refused(INDEX, () -> w.strike(3, l), () -> w.text(3, l), () -> w.words(3, l), () -> w.word(3, l, 0),
          () -> w.ofWord(3, l, 0, 0), () -> w.number(3, l, 0), () -> w.plain(3, l), () -> w.quoted(3, l),
          () -> w.again(3, l, 0), () -> w.reckon(3, l), () -> w.would(3, l), () -> w.ofWould(3, l, 0), () -> w.load(3, l));
    }
    due(2, () -> w.strike(3, 9) + w.strike(3, 0));
    due(9, () -> w.line(3, 3, 0, 0, 0, 0));
    due("A|B", () -> w.text(3, 7) + "|" + w.text(3, 8));
    // "a LINE has at most 48 signs, its columns are numbered from 0"
    files();
    due(1, () -> w.line(0, 26, 26, 26, 26, 60));
    due(48, () -> w.text(0, 0).length());
    refused(ARGUMENT, () -> w.line(0, 26, 26, 26, 26, 68), () -> w.line(0, 77, 77, 77, 77, 77));
    due(2, () -> w.line(0, 1, 1, 1, 1, 1));
    due(45, () -> w.more(0, 26, 26, 26, 26, 0));
    refused(STATE, () -> w.more(0, 12, 0, 0, 0, 0), () -> w.more(0, 2, 2, 2, 2, 0));
    due(48, () -> w.more(0, 41, 2, 50, 0, 0));
    refused(STATE, () -> w.more(0, 0, 0, 2, 0, 0));
    due(48, () -> w.more(0, 0, 0, 0, 0, 0));
    due("105 147", () -> w.ofWord(0, 1, 0, 2) + " " + w.ofWord(0, 1, 3, 2));
    // PIECES 0 to 95 (0 is nothing, 1 one blank, 54 one backslash)
    files("A");
    for (int p : new int[] {-1, 96, Integer.MIN_VALUE, Integer.MAX_VALUE}) {
      refused(ARGUMENT, () -> w.line(0, p, 0, 0, 0, 0), () -> w.line(0, 0, p, 0, 0, 0), () -> w.line(0, 0, 0, p, 0, 0),
          () -> w.line(0, 0, 0, 0, p, 0), () -> w.line(0, 0, 0, 0, 0, p), () -> w.more(0, p, 0, 0, 0, 0),
          () -> w.more(0, 0, p, 0, 0, 0), () -> w.more(0, 0, 0, p, 0, 0), () -> w.more(0, 0, 0, 0, p, 0),
          () -> w.more(0, 0, 0, 0, 0, p), () -> w.piece(p), () -> w.isApart(p, 2), () -> w.isApart(2, p),
          () -> w.paste(p, 2), () -> w.paste(2, p), () -> w.isDefined(p), () -> w.put(p), () -> w.swap(p), () -> w.tail(p));
    }
    due("| |\\|G(y, x)", () -> w.piece(0) + "|" + w.piece(1) + "|" + w.piece(54) + "|" + w.piece(95));
    // of several exceptions the one that is named first is thrown
    for (int i = 0; i < 9; i++) {
      w.line(0, 0, 0, 0, 0, 0);
    }
    refused(INDEX, () -> w.line(4, 96, 0, 0, 0, 0), () -> w.more(-1, 96, 0, 0, 0, 0));
    refused(ARGUMENT, () -> w.line(0, 96, 0, 0, 0, 0), () -> w.line(0, 26, 26, 26, 26, 26),
        () -> w.more(1, 96, 0, 0, 0, 0));
    // more(): no LINE
    refused(STATE, () -> w.more(1, 2, 0, 0, 0, 0));
    // strike(): "those behind it move up"; empty(): "Returns how many there were."
    files("A\nA B C\n\nB");
    due("1 5 0 1", () -> w.strike(0, 0) + " " + w.strike(0, 0) + " " + w.strike(0, 0) + " " + w.strike(0, 0));
    refused(INDEX, () -> w.strike(0, 0));
    due(0, () -> w.empty(0));
    files("A\nB", "C");
    due("2 0 1", () -> w.empty(0) + " " + w.ofFile(0, 0) + " " + w.ofFile(1, 0));
    due(5, () -> {
      w.line(0, 85, 0, 0, 0, 0);
      return w.text(0, 0).length();
    });
  }

  // ---- 2. Words

  private static void joining() {
    // "if its last sign is a backslash, this sign falls away and the next LINE, if there is one, goes on directly behind"
    files("A\\\nB\\\nC\nD", "A\\", "\\", "A\\ \nB");
    due("ABC", () -> w.plain(0, 0));
    due("BC", () -> w.plain(0, 1));
    due("C", () -> w.plain(0, 2));
    due("A", () -> w.plain(1, 0));
    due(0, () -> w.words(2, 0));
    due("A\\", () -> w.plain(3, 0));
    files("A\\\\\nB", "\\\n\\\n A", "A\\\n\nB", "A \\\nB [\\\n] C'\\\nx' D");
    due("A\\B", () -> w.plain(0, 0));
    due("10201 1", () -> w.ofWord(1, 0, 0, 2) + " " + w.ofWord(1, 0, 0, 1));
    due("A", () -> w.plain(2, 0));
    due("A B C'x'D", () -> w.plain(3, 0));
    due("30000 0|30100 1|30202 1|30203 0|30303 1", () -> all(5, k -> w.ofWord(3, 0, k, 2) + " " + w.ofWord(3, 0, k, 1)));
    // as long as a JOINED LINE can be
    String line = n("9999999999", 4) + "COUNTA7\\";
    files(line + n("\n" + line, 9));
    due("470 1", () -> w.plain(0, 0).length() + " " + w.words(0, 0));
    due(47, () -> w.plain(0, 9).length());
    files("'" + n("9999999999", 4) + "COUNTA\\" + n("\n" + line, 9));
    due("471 2", () -> w.plain(0, 0).length() + " " + w.ofWord(0, 0, 0, 0));
    // "It ENDS with the last LINE looked at so": the next one is read from the LINE behind it
    due("AB|C|D", () -> run("A\\\nB\nC\\\n\nD"));
    due("1@0.0 #x A", () -> errors("#x \\\nA\\"));
    due("A", () -> run("#if \\\n 0\nB\n#else\nA\n#endif"));
  }

  private static void reading() {
    // "A COMMENT from "[" to the next "]", or to the end without one, is passed over."
    due("A|B", () -> words("A[x[y]B"));
    due("A", () -> words("A[x y"));
    due("A|]|B", () -> words("A[]]B"));
    due("", () -> words("["));
    due("'['|]", () -> words("[']'[']"));
    due("1|1|0", () -> {
      words("A[]B[x]C");
      return w.ofWord(0, 0, 1, 1) + "|" + w.ofWord(0, 0, 2, 1) + "|" + w.ofWord(0, 0, 0, 1);
    });
    // "A WORD is BLANK, if a blank or a COMMENT stands directly ahead of it."
    due("1 1 0 1", () -> {
      words(" A [] B(C[])");
      return w.ofWord(0, 0, 0, 1) + " " + w.ofWord(0, 0, 1, 1) + " " + w.ofWord(0, 0, 2, 1) + " " + w.ofWord(0, 0, 4, 1);
    });
    // NAME: "a letter or "_", then letters, digits and "_""; NUMBER: "a digit, then letters, digits and "_""
    due("_|A1_x|x_|0x1F_|7A", () -> words("_ A1_x x_ 0x1F_ 7A"));
    due("0|0|0|1|1", () -> all(5, k -> w.ofWord(0, 0, k, 0)));
    due("A|.|1|.|B", () -> words("A.1.B"));
    // TEXT: "two signs "'" side by side count as one sign of the TEXT and go on"; "If the end is reached first, a "'" is
    // put behind: the spelling has it."
    due("''", () -> words("''"));
    due("''", () -> words("'"));
    due("''''", () -> words("''''"));
    due("''''", () -> words("'''"));
    due("'A'''", () -> words("'A''"));
    due("'A'|B|'C'", () -> words("'A'B'C"));
    due("'A''B'", () -> words("'A''B'"));
    due("'A' 2 4 3", () -> words("'A") + " " + w.ofWord(0, 0, 0, 0) + " " + (w.ofWord(0, 0, 0, 3) + 1) + " "
        + w.ofWord(0, 0, 0, 3));
    // SIGN: "the longest of these that stands there"
    due("(|)|,|;|?|:|~|^|*|/|%", () -> words("(),;?:~^*/%"));
    due("...|..", () -> words("....."));
    due("...|...|.", () -> words("......."));
    due("..|A|.|B", () -> words("..A.B"));
    due("##|#", () -> words("###"));
    due("++|+|--|-", () -> words("+++---"));
    due("<<|<=|<|=", () -> words("<<<=< ="));
    due(">>|>=|>", () -> words(">>>=>"));
    due("==|=|!=|!", () -> words("===!=!"));
    due("&&|&|||||", () -> words("&&&|||"));
    due("<|>=|<|!|!", () -> words("<>=<!!"));
    // "Any sign that begins none of these and none of the above (a backslash, "]") is a SIGN of its own."
    due("]|]|\\|\\|A", () -> words("]]\\\\A"));
    due("3|3|3|3|0", () -> all(5, k -> w.ofWord(0, 0, k, 0)));
    // "It is NEW, if it is the first of a JOINED LINE."
    run(" A B\\\nC\n\nD");
    due("1 0 1", () -> line(w.ofRun(0), k -> w.ofOut(k, 2)));
    // PLACE: "(so in a JOINED LINE each part has its own LINE and columns)"; a WORD that goes over two has its first sign's
    files("", "", "", " A B\\\nC;\\\n;");
    due("30001|30003|30101|30200", () -> all(4, k -> w.ofWord(3, 0, k, 2)));
    // TOLD: "the LINE with which its JOINED LINE begins"; outside a RUN as they are
    files("", "#line 12 7\nA\\\nLINE FILE");
    due("ALINE 1", () -> w.would(1, 1));
    due("2 1", () -> w.would(1, 2));
    files("", "#line 12 7\n;\\\nLINE FILE");
    due(";1 1", () -> w.would(1, 1));
    // "hides some NAMES (none when it is read) and has a CHAIN of PLACES, at first its own PLACE alone"
    run("A");
    due("1 0 0", () -> w.ofOut(0, 3) + " " + w.ofOut(0, 4) + " " + w.chain(0, 0));
  }

  // ---- 3. Texts of rows

  private static void texts() {
    // APART: "if reading the first one with the second one directly behind gives just these two"
    String[] apart = {"A;", "1;", "'x'A", "A'x'", "1'x'", "'x'1", ";'x'", "...x", "(x", "+-", "-+", "<>", "=<", "!!", "&|",
        "*=", "/=", "%=", "^=", "+=", "-=", "&=", "|=", "##'x'", ")(", ",,", "::", "==;", ">>;", "]]", "##;", "++;"};
    for (String two : apart) {
      files(two);
      due(two, () -> w.words(0, 0) == 2 ? w.plain(0, 0) : w.words(0, 0));
    }
    String[] blank = {"A B", "A 1", "1 A", "1 1", "'A' 'B'", ". .", ". ..", ".. .", ".. ..", ". ...", ".. ...", "# #", "# ##",
        "+ +", "+ ++", "- -", "- --", "< <", "< =", "< <<", "< <=", "< ==", "> >", "> =", "> >>", "> >=", "> ==", "= =",
        "= ==", "! =", "! ==", "& &", "& &&", "| |", "| ||"};
    for (String two : blank) {
      files(two);
      due(two, () -> w.words(0, 0) == 2 ? w.plain(0, 0) : w.words(0, 0));
    }
    String[] close = {"... .", "... ..", "## #", "++ +", "-- -", "<< <", "<< =", "<< <=", "<= =", "<= <", ">> >", ">> =",
        ">= =", "== =", "!= =", "&& &", "|| |", "= >", "! !", "# +"};
    for (String two : close) {
      files(two);
      due(two.replace(" ", ""), () -> w.words(0, 0) == 2 ? w.plain(0, 0) : w.words(0, 0));
    }
    // TEXT OUT: of no WORD and of one nothing is between
    files("\n A ", "  A  ( B  B ) [] C");
    due("|A", () -> w.plain(0, 0) + "|" + w.plain(0, 1));
    due("A(B B)C", () -> w.plain(1, 0));
    // QUOTED: "one blank between neighbours, if the later one is BLANK or NEW or they are not APART"
    due("'A ( B B ) C'", () -> w.quoted(1, 0));
    due("''", () -> w.quoted(0, 0));
    due("'A'", () -> w.quoted(0, 1));
    files("A(B", "A (B", "+[]-", "'A' 'it''s'");
    due("'A(B'", () -> w.quoted(0, 0));
    due("'A (B'", () -> w.quoted(1, 0));
    due("'+ -'", () -> w.quoted(2, 0));
    due("'''A'' ''it''''s'''", () -> w.quoted(3, 0));
    due("'A B'", () -> run("#define F(x) #x\nF(A\nB)"));
    due("'; ;'", () -> run("#define F(x) #x\nF(;\n;)"));
    due("';;'", () -> run("#define F(x) #x\nF(;;)"));
    due("'+ +'", () -> run("#define F(x) #x\n#define A +\nF(+ +)"));
    // INSIDE: "without these two, and each two signs "'" are one again"
    files("'A' 'it''s' '", "''''", "", "+ +");
    due("'A'|'it''s'|''", () -> all(3, k -> w.again(0, 0, k)));
    due("''''", () -> w.again(1, 0, 0));
    due("+|+", () -> all(2, k -> w.again(3, 0, k)));
    refused(INDEX, () -> w.again(0, 0, 3), () -> w.again(0, 0, -1), () -> w.again(2, 0, 0));
    // PASTING: "If that gives just one WORD, with just that spelling"
    files();
    int[][] pasted = {{2, 2, 0}, {2, 17, 0}, {55, 21, 0}, {17, 9, 1}, {17, 55, 1}, {18, 18, 1}, {51, 51, 2}, {56, 51, 2},
        {31, 31, 3}, {33, 33, 3}, {35, 35, 3}, {36, 36, 3}, {40, 40, 3}, {40, 42, 3}, {41, 41, 3}, {41, 42, 3}, {42, 42, 3},
        {43, 42, 3}, {44, 44, 3}, {45, 45, 3}, {2, 28, -1}, {28, 2, -1}, {2, 51, -1}, {51, 2, -1}, {31, 32, -1}, {32, 31, -1},
        {33, 34, -1}, {35, 36, -1}, {37, 42, -1}, {42, 40, -1}, {43, 43, -1}, {54, 54, -1}, {53, 53, -1}, {18, 31, -1},
        {58, 42, -1}, {59, 42, -1}, {28, 29, -1}};
    for (int[] p : pasted) {
      due(p[0] + " " + p[1] + " " + p[2], () -> p[0] + " " + p[1] + " " + w.paste(p[0], p[1]));
    }
    due("..|", () -> run("#define A . ## .\nA") + "|" + errors());
    due("...|", () -> run("#define A . ## . ## .\nA") + "|" + errors());
    due(".. ..|14@0.1 ....", () -> run("#define A .. ## ..\nA") + "|" + errors());
    // "BLANK, NEW, TOLD and the CHAIN are those of the first, and it hides all that either hides"
    run("#define G(x, y) y ;x ## y\n#define F(x) x\nG(A\\\n, B)\nG( A,\nB)");
    due("AB 0 0 0 2", () -> w.outWord(2) + " " + w.ofOut(2, 1) + " " + w.ofOut(2, 2) + " " + w.ofOut(2, 5) + " "
        + w.ofOut(2, 6));
    due("202 200", () -> chain(2));
    due("4 403 400", () -> w.ofOut(5, 6) + " " + chain(5));
    run("#define G(x, y) x ## y\n#define F(x) G(1, x)\n#define A B\nF(A)");
    due("1B 3 true true true", () -> w.outWord(0) + " " + w.ofOut(0, 4) + " " + w.hides(0, 7) + " " + w.hides(0, 6) + " "
        + w.hides(0, 2));
  }

  // ---- 4. Names

  private static void defining() {
    // BUILT IN: LINE, FILE, COUNT. RESERVED: these, MORE and defined.
    String[] reserved = {"LINE", "FILE", "COUNT", "MORE", "defined"};
    for (String name : reserved) {
      due("1@0.0 #define " + name + " 1", () -> errors("#define " + name + " 1"));
      due("1@0.0 #define F(" + name + ")x", () -> errors("#define F(" + name + ")x"));
      due("1@0.0 #undef " + name, () -> errors("#undef " + name));
      due(name.equals("MORE") || name.equals("defined") ? "" : "1", () -> run("#ifdef " + name + "\n1\n#endif"));
    }
    // "If the WORD behind that is "(" and not BLANK, the NAME has PARAMETERS"
    due("(x)x;", () -> run("#define F (x)x\nF;"));
    due("(x)x;", () -> run("#define F[](x)x\nF;"));
    due("A;", () -> run("#define F(x)x\nF(A);"));
    due("F;", () -> run("#define F()\nF;"));
    due(";", () -> run("#define F\nF;"));
    run("#define A\n#define B()\n#define C(x)");
    due("-1 0 1", () -> line(3, i -> w.ofName(i, 0)));
    // "up to the next ")" there is nothing, or at most 4 different NAMES ... with one "," between neighbours; as the last
    // one "..." may stand besides (behind a "," or alone)"
    String[] good = {"#define F()", "#define F(x)", "#define F(x,y,z,A)", "#define F(x,y,z,A,...)", "#define F(...)",
        "#define F(x,...)", "#define F( x , y )", "#define F(F)", "#define F(_)"};
    int[] counts = {0, 1, 4, 5, 1, 2, 2, 1, 1};
    for (int i = 0; i < good.length; i++) {
      String line = good[i];
      String want = "|" + counts[i] + (line.contains("...") ? " 1" : " 0");
      due(want, () -> errors(line) + "|" + w.ofName(0, 0) + " " + w.ofName(0, 1));
    }
    String[] bad = {"#define F(", "#define F(x", "#define F(x,", "#define F(,)", "#define F(x,)", "#define F(,x)",
        "#define F(x,,y)", "#define F(x y)", "#define F(x,y,z,A,B)", "#define F(x,y,z,A,B,...)", "#define F(x,x)",
        "#define F(x,y,x)", "#define F(...,x)", "#define F(...,...)", "#define F(x...)", "#define F(1)", "#define F(())",
        "#define F('x')", "#define F(x,..)", "#define ", "#define 1", "#define 'A'", "#define ;", "#define (x)"};
    for (String line : bad) {
      run(line);
      due("1@0.0 " + w.plain(0, 0) + "|0", () -> errors() + "|" + w.ofRun(4));
    }
    bodies();
  }

  private static void bodies() {
    // "if the BODY has more than 20 WORDS"
    due("|20", () -> errors("#define A" + n(" 1", 19) + "\\\n 1") + "|" + w.ofName(0, 2));
    due("1@0.0 #define A" + n(" 1", 21), () -> errors("#define A" + n(" 1", 19) + "\\\n 1 1"));
    due("|20", () -> errors("#define F(x)" + n(" 1", 17) + "\\\n 1 1 1") + "|" + w.ofName(0, 2));
    due("1@0.0 #define F(x)1" + n(" 1", 20), () -> errors("#define F(x)" + n(" 1", 17) + "\\\n 1 1 1 1"));
    due("|0", () -> errors("#define A") + "|" + w.ofName(0, 2));
    // "begins or ends with "##" or has two "##" side by side"
    String[] bad = {"#define A ##", "#define A ##x", "#define A x##", "#define A x####y", "#define A x## ##y",
        "#define A ## ##", "#define F(x)##x", "#define F(x)x##", "#define F(x)x####x"};
    for (String line : bad) {
      run(line);
      due("1@0.0 " + w.plain(0, 0) + "|0", () -> errors() + "|" + w.ofRun(4));
    }
    due("", () -> errors("#define A x##y##z"));
    due("", () -> errors("#define A #"));
    // "(with PARAMETERS, even if there are none between the brackets) has a "#" that is not directly ahead of a WORD that
    // is spelled like a PARAMETER"
    due("1@0.0 #define F()#x", () -> errors("#define F()#x"));
    due("1@0.0 #define F(x)#", () -> errors("#define F(x)#"));
    due("1@0.0 #define F(x)#y", () -> errors("#define F(x)#y"));
    due("1@0.0 #define F(x)#MORE", () -> errors("#define F(x)#MORE"));
    due("1@0.0 #define F(x)# ##x", () -> errors("#define F(x)# ##x"));
    due("1@0.0 #define F(x)#;x", () -> errors("#define F(x)#;x"));
    due("1@0.0 #define F(x)x#", () -> errors("#define F(x)x#"));
    due("", () -> errors("#define F(x)#x# x"));
    due("", () -> errors("#define F(...)#MORE"));
    due("", () -> errors("#define F(x,...)#MORE#x"));
    // "Without PARAMETERS "#" is a WORD like others; and MORE is one, where it is no PARAMETER."
    due("#x#;", () -> run("#define A #x#\nA;"));
    due("MORE B MORE", () -> run("#define A MORE\n#define F(x)x MORE\nA F(B)"));
    // "If that NAME is DEFINED already, nothing changes; it is an error (DIFFERENT), if it is not ALIKE"
    String[] alike = {"A x y", "A  x y", "A x[]y", "A[]x   y", "F(x,y)x", "F( x , y )x", "F(x,...)#x MORE", "F()", "G"};
    String[] other = {"A[]x y", "A x y", "A x y", "A x y", "F(x,y) x", "F(x,y)x", "F(x,...) #x  MORE", "F()", "G "};
    for (int i = 0; i < alike.length; i++) {
      String two = "#define " + alike[i] + "\n#define " + other[i];
      due("", () -> errors(two));
    }
    String[] one = {"A x y", "A x y", "A x;", "A x", "A", "A", "F(x,y)x", "F(x)x", "F(x)x", "F()", "F(x)x", "F(x)x", "F()",
        "F(x,y)x", "F(x,...)MORE"};
    String[] another = {"A x", "A x y z", "A x ;", "A y", "A()", "A x", "F(y,x)x", "F(y)x", "F(x,y)x", "F", "F(x,...)x",
        "F(x)y", "F(...)", "F(x,...)x", "F(...)MORE"};
    String[] stays = {"x y", "x y", "x;", "x", "", "", "x", "x", "x", "", "x", "x", "", "x", "MORE"};
    for (int i = 0; i < one.length; i++) {
      String two = "#define " + one[i] + "\n#define " + another[i];
      due("2@0.1 " + one[i].charAt(0) + "|1|" + stays[i], () -> errors(two) + "|" + w.ofRun(4) + "|" + w.body(0));
    }
    run("#define F(x)x\n#define F(x,y)x\n#define F\n");
    due("1 0 1 8 0", () -> line(5, what -> w.ofName(0, what)));
    // "Otherwise it is DEFINED from now on, but if 8 are, this is an error (FULL)."
    String eight = "#define A\n#define B\n#define C\n#define D\n#define F\n#define G\n#define H\n#define x";
    due("3@0.1 y|8", () -> errors("#include 1\n#define y", eight) + "|" + w.ofRun(4));
    due("|8", () -> errors("#include 1\n#define A", eight) + "|" + w.ofRun(4));
    due("2@0.1 A|8", () -> errors("#include 1\n#define A B", eight) + "|" + w.ofRun(4));
    due("1@0.1 #define y##|8", () -> errors("#include 1\n#define y ##", eight) + "|" + w.ofRun(4));
    due("|8", () -> errors("#include 1\n#undef A\n#define y", eight) + "|" + w.ofRun(4));
    due("|8|y|7", () -> errors("#include 1\n#undef x\n#define y 7\ny\n#define y 7", eight) + "|" + w.ofRun(4) + "|"
        + w.name(7) + "|" + out());
    // "# undef" is followed by one NAME that is not RESERVED and nothing else"; "it is not DEFINED any more, if it was"
    String[] bad2 = {"#undef ", "#undef A B", "#undef A,", "#undef 1", "#undef 'A'", "#undef (A)"};
    for (String line : bad2) {
      run("#define A\n" + line);
      due("1@0.1 " + w.plain(0, 1) + "|1", () -> errors() + "|" + w.ofRun(4));
    }
    due("A 1|", () -> run("#define A\n#undef A\n#undef A\n#define B 1\nA B") + "|" + errors());
  }

  // ---- 5. Expanding

  private static void looks() {
    // the codes of LOOKS; "If no call is OPEN and no WORD is behind the POINT, nothing is done (0)."
    files();
    due("0 0", () -> w.step() + " " + w.step());
    desk("#define A LINE\n#define F(x)x\n#define B\n#define C()", ";A F(A)B C()F");
    due("1;@A F(A)B C()F", () -> w.step() + w.desk());
    due("3;@LINE F(A)B C()F", () -> w.step() + w.desk());
    due("2;0@F(A)B C()F", () -> w.step() + w.desk());
    due("4;0 F(@A)B C()F", () -> w.step() + w.desk());
    due("3;0 F(@LINE)B C()F", () -> w.step() + w.desk());
    due("2;0 F(0@)B C()F", () -> w.step() + w.desk());
    due("5;0@0 B C()F", () -> w.step() + w.desk());
    due("1;0 0@B C()F", () -> w.step() + w.desk());
    due("3;0 0@C()F", () -> w.step() + w.desk());
    due("4;0 0 C(@)F", () -> w.step() + w.desk());
    due("5;0 0@F", () -> w.step() + w.desk());
    due("1;0 0 F@", () -> w.step() + w.desk());
    due("0;0 0 F@", () -> w.step() + w.desk());
    // "as long as the argument at hand is not NEEDED, or has no WORD behind the POINT, the POINT goes to the front of the
    // next argument, which is then at hand. If there is no next one, the call CLOSES, and this is all of the LOOK (5)."
    desk("#define G(x,y,z)#x y", "G(A,B,C)");
    due("4G(@A,B,C)", () -> w.step() + w.desk());
    due("1G(A,B@,C)", () -> w.step() + w.desk());
    due("5@'A'B", () -> w.step() + w.desk());
    desk("#define G(x,y,z)z##z y", "G(A,,C);");
    due("4G(@A,,C);", () -> w.step() + w.desk());
    due("5@CC;", () -> w.step() + w.desk());
    desk("#define H(x,...)MORE", "H(A,,B)H(A)");
    due("4H(@A,,B)H(A)", () -> w.step() + w.desk());
    due("1H(A,,@B)H(A)", () -> w.step() + w.desk());
    due("1H(A,,B@)H(A)", () -> w.step() + w.desk());
    due("5@,B H(A)", () -> w.step() + w.desk());
    due("1 1 4 5 0", () -> line(5, i -> w.step()));
    // "The ROW AT HAND is the argument at hand of the call that was OPENED last; without an OPEN one the whole row."
    desk("#define F(x)x\n#define G(x,y)x y", "G(F,(1))");
    due("4 1 1 1 1 5 4 1 5 1 0", () -> line(11, i -> w.step()));
    due("F(1|9@0.2 F", () -> run("#define F(x)x\n#define A F(\nF(A 1)") + "|" + errors());
    // "W is no NAME, or one that is neither DEFINED nor BUILT IN, or W hides the NAME as which it is spelled": no error
    due("A 1'A';|0", () -> run("A 1 'A';") + errors() + "|" + w.ofRun(3));
    due("A|1", () -> run("#define A A\nA") + errors() + "|" + w.ofRun(3));
    due("F(|1", () -> run("#define F(x)F(\nF(1)") + errors() + "|" + w.ofRun(3));
    due("F(1,2)|1", () -> run("#define F(x)F(x,2)\nF(1)") + errors() + "|" + w.ofRun(3));
    due("1|2", () -> run("#define F(x)x\nF(F(1))") + errors() + "|" + w.ofRun(3));
    // "it has PARAMETERS, and in the ROW AT HAND the next WORD behind W is not "("": no error
    due("F F,(1)F|0", () -> run("#define F(x)x\nF F,(1)F") + errors() + "|" + w.ofRun(3));
    due("1|1", () -> run("#define F(x)x\nF\n[]\n\n (1)") + errors() + "|" + w.ofRun(3));
    spent();
    unfit();
    comesIn();
    marks();
  }

  private static final String COUNTS = n("COUNT COUNT COUNT COUNT COUNT COUNT COUNT COUNT\n", 9);

  private static void spent() {
    // "80 STEPS have been made (error SPENT, but only the first time)"
    run(COUNTS + "COUNT COUNT COUNT COUNT COUNT COUNT COUNT COUNT");
    due("80 80 0 79 79", () -> w.ofRun(3) + " " + w.ofRun(7) + " " + w.ofRun(2) + " " + w.outWord(79) + " "
        + w.outLine(9).substring(21));
    due("COUNT", () -> w.trace(79));
    refused(INDEX, () -> w.trace(80), () -> w.trace(-1));
    w.run(0);
    due("80 80 0", () -> w.ofRun(3) + " " + w.ofRun(7) + " " + w.ofRun(2));
    // it is told ahead of UNCLOSED, and not of what the POINT goes over anyway
    files(COUNTS + "COUNT COUNT COUNT COUNT COUNT COUNT COUNT COUNT",
        "#define A 1\n#define F(x)x\n#include 0\n; F;B A F(\n#\nCOUNT A");
    w.run(1);
    due("13@1.3 A|80|80", () -> errors() + "|" + w.ofRun(3) + "|" + w.ofRun(7));
    due(";F;B A F(|COUNT A", () -> w.outLine(10) + "|" + w.outLine(11));
    files(COUNTS + "COUNT COUNT COUNT COUNT COUNT COUNT COUNT A", "#define A A\n#include 0\n#if defined A\n1\n#endif");
    w.run(1);
    due("|80|79|1", () -> errors() + "|" + w.ofRun(3) + "|" + w.ofRun(7) + "|" + w.outLine(10));
    files(COUNTS + "COUNT COUNT COUNT COUNT COUNT COUNT COUNT A", "#define A COUNT\n#include 0\n#if LINE\n#endif");
    w.run(1);
    due("13@0.9 COUNT|80|79", () -> errors() + "|" + w.ofRun(3) + "|" + w.ofRun(7));
    // "STEPS, COUNT (both 0 at first) and errors are kept for a RUN, for the DESK since it was loaded, and for each call of
    // would(), ofWould() and reckon() by itself."
    desk("#define A COUNT COUNT COUNT COUNT COUNT COUNT", "A A A A A A A A A A A A");
    for (int i = 0; i < 2; i++) {
      due("12 0 0 0 0 -1 0 0", () -> ofDesk());
      w.finish();
      due("72 72 0 80 1 13 68 0", () -> ofDesk());
      due("72 80 1 68", () -> line(4, what -> w.ofWould(1, 0, what)));
      w.load(1, 0);
    }
    due("0 0 0 0", () -> w.ofRun(0) + " " + w.ofRun(2) + " " + w.ofRun(3) + " " + w.ofRun(7));
    desk("#define A COUNT COUNT COUNT COUNT COUNT COUNT", "A A A A A A A A A A A LINE LINE LINE\nCOUNT");
    w.finish();
    due("69 69 0 80 0 -1 66 0", () -> ofDesk());
    due("69 80 0 66", () -> line(4, what -> w.ofWould(1, 0, what)));
    due("0 0", () -> w.would(1, 1) + " " + w.would(1, 1));
    due("0 0", () -> w.reckon(1, 1) + " " + w.reckon(1, 1));
  }

  private static void unfit() {
    // "there is no ")" that closes this "(" (error UNCLOSED; only "(" and ")" nest)"
    due("F(1|9@0.1 F", () -> run("#define F(x)x\nF(1") + "|" + errors());
    due("F((1)|9@0.1 F", () -> run("#define F(x)x\nF((1)") + "|" + errors());
    due("F('1)'|9@0.1 F", () -> run("#define F(x)x\nF('1)") + "|" + errors());
    due("F(,|9@0.1 F", () -> run("#define F(x)x\nF(,") + "|" + errors());
    due("]|", () -> run("#define F(x)x\nF(])") + "|" + errors());
    due("(1)|", () -> run("#define F(x)x\nF((1))") + "|" + errors());
    due("F(|1)|9@0.1 F", () -> run("#define F(x)x\nF(\n#\n1)") + "|" + errors());
    // "They fit, if there are as many as PARAMETERS (MORE may be without its ",", so H() fits H(x, ...); nothing between the
    // brackets is one argument without WORDS for one PARAMETER, and none for none). With MORE alone all between the brackets
    // is its argument."
    String[] fit = {"()", "()", "()", "( )", "(x)", "()", "(x)", "((,))", "(x)", "('1,2')", "(x,y)", "(,)", "(x,y)",
        "((1,2),3)", "(x,...)", "()", "(x,...)", "(1)", "(x,...)", "(,)", "(x,...)", "(1,2,3)", "(x,y,...)", "(,)",
        "(x,y,...)", "(1,2)", "(x,y,...)", "(1,2,3,7)", "(...)", "()", "(...)", "(,,)", "(x,y,z,A)", "(1,2,3,7)",
        "(x,y,z,A,...)", "(1,2,3,7)", "(x,y,z,A,...)", "(1,2,3,7,,)"};
    for (int i = 0; i < fit.length; i += 2) {
      String two = "#define F" + fit[i] + " 7\nF" + fit[i + 1];
      due("7|", () -> run(two) + "|" + errors());
    }
    String[] misfit = {"()", "(1)", "()", "(,)", "()", "(())", "(x)", "(,)", "(x)", "((1,2),3)", "(x,y)", "()", "(x,y)", "(1)",
        "(x,y)", "((1,2))", "(x,y)", "(1,2,3)", "(x,y,...)", "()", "(x,y,...)", "(1)", "(x,y,z,A)", "(1,2,3)",
        "(x,y,z,A)", "(1,2,3,7,1)", "(x,y,z,A,...)", "(1,2,3)"};
    for (int i = 0; i < misfit.length; i += 2) {
      String two = "#define F" + misfit[i] + " 7\nF" + misfit[i + 1];
      due("F" + misfit[i + 1] + "|10@0.1 F", () -> run(two) + "|" + errors());
    }
    due("'2,3' '' '1'", () -> run("#define F(x,y,...)#MORE #y #x\nF(1,,2,3)"));
    due("'' '1'", () -> run("#define F(x,...)#MORE #x\nF(1)"));
    due("',1' '2'", () -> run("#define F(x,...)#MORE #x\nF(2,,1)"));
    due(",,|(1,2)3", () -> run("#define F(...)MORE\n#define G(x,y)x y\nF(,,)\nG((1,2),3)"));
    // "6 calls are OPEN (error NESTED)"
    due("1|6", () -> run("#define F(x)x\nF(F(F(F(F(F(1))))))") + errors() + "|" + w.ofRun(3));
    due("F(1)|6|11@0.1 F", () -> run("#define F(x)x\nF(F(F(F(F(F(F(1)))))))") + "|" + w.ofRun(3) + "|" + errors());
    due("1 1|12", () -> run("#define F(x)x\nF(F(F(F(F(F(1))))))F(F(F(F(F(F(1))))))") + errors() + "|" + w.ofRun(3));
    due("10@0.1 F", () -> errors("#define F(x)x\nF(F(F(F(F(F(F(,)))))))"));
    due("", () -> errors("#define F(x)x\n#define G(x)#x\nG(F(F(F(F(F(F(F(F(1)))))))))"));
    desk("#define F(x)x", "F(F(F(F(F(F(F(1)))))))");
    due("4 4 4 4 4 4 1", () -> line(7, i -> w.step()));
    due("22 13 6 6 1 11 0 0", () -> ofDesk());
    // BUILT IN, and a NAME without PARAMETERS, are REPLACED with 6 calls OPEN, too
    due("0 7|", () -> run("#define F(x)x\n#define A 7\nF(F(F(F(F(F(COUNT A))))))") + "|" + errors());
  }

  private static void comesIn() {
    // BUILT IN: "All else of the WORD is as it was in W. The POINT goes behind it."
    run("; LINE(COUNT FILE\nLINE");
    due("1 1 0 1 0 0 0 1 48", () -> ofOut(1));
    due("1 0 0 1 0 0 0 1 48", () -> ofOut(3));
    due("1 0 1 1 0 0 1 1 49", () -> ofOut(5));
    due("2 7 13 100", () -> w.chain(1, 0) + " " + w.chain(3, 0) + " " + w.chain(4, 0) + " " + w.chain(5, 0));
    due("2 1", () -> run("#define F(x)x LINE\nF(\nLINE)"));
    due("3", () -> run("#define A LINE\n#define F(x)x\nF(\nA)"));
    // "An argument is NEEDED, if its PARAMETER stands somewhere in the BODY neither directly behind "#" nor next to a "##".
    // So each NEEDED one is EXPANDED once, in place, by the order of PARAMETERS."
    due("'COUNT'COUNTCOUNT|1 0", () -> run("#define G(x,y)#x y##y\nG(COUNT,COUNT)") + "|" + w.ofRun(3) + " " + w.ofRun(7));
    due("COUNTA ACOUNT|0", () -> run("#define G(x)x##A A##x\nG(COUNT)") + "|" + w.ofRun(7));
    due("0 0'COUNT'COUNTCOUNT|1", () -> run("#define F(x)x x #x x##x\nF(COUNT)") + "|" + w.ofRun(7));
    due("1 0|2", () -> run("#define G(x,y)y x\nG(COUNT,COUNT)") + "|" + w.ofRun(7));
    due("0|1", () -> run("#define G(x,y)y\nG(COUNT,COUNT)") + "|" + w.ofRun(7));
    due("0'COUNT'", () -> run("#define H(...)MORE #MORE\nH(COUNT)"));
    // "In arguments, as they stand when the call OPENS (AS TYPED) and EXPANDED, a WORD that is NEW is BLANK instead."
    run("#define F(x)(x)#x\nF(;\n;)");
    due("3 1 0|1|(;;)'; ;'", () -> w.ofOut(2, 0) + " " + w.ofOut(2, 1) + " " + w.ofOut(2, 2) + "|" + out().split("\\|").length
        + "|" + out());
    // "a TEXT, the argument AS TYPED, QUOTED; its PLACE, CHAIN and BLANK are those of "#""
    run("#define F(x)A #x;#x\nF(B)");
    due("A'B';'B'", () -> out());
    due("2 1 0 2 1 0 1 3 39", () -> ofOut(1));
    due("14 100|17 100|0", () -> chain(1) + "|" + chain(3) + "|" + w.ofOut(3, 1));
    due("''", () -> run("#define F(x)#x\nF( [] )"));
    // "a PARAMETER next to a "##": its argument AS TYPED"; "any other PARAMETER: its argument EXPANDED"
    due("AA 7", () -> run("#define A 7\n#define G(x,y)x##y x\nG(A,A)"));
    // "or, if that has no WORDS, an EMPTY mark"; "If one of both is an EMPTY mark, the other one stays."; "Of an argument of
    // several WORDS the first one is PASTED with what is ahead, the last one with what is behind"
    String[] three = {"(,,)", "", "(A,,)", "A", "(,A,)", "A", "(,,A)", "A", "(A,,B)", "AB", "(A,B,)", "AB", "(,A,B)", "AB",
        "(A,B,C)", "ABC", "(1 2,3 7,A B)", "1 23 7A B", "(1 2,,A B)", "1 2A B", "(,1 2,A B)", "1 2A B", "(1 2,A B,)", "1 2A B"};
    for (int i = 0; i < three.length; i += 2) {
      String two = "#define F(x,y,z)x##y##z\nF" + three[i];
      due(three[i + 1] + "|", () -> run(two) + "|" + errors());
    }
    due(";7|", () -> run("#define G(x,y);x##y 7\nG(,)") + "|" + errors());
    due(";7|", () -> run("#define G(x,y)x##; ##y 7\nG(,)") + "|" + errors());
    // "The first WORD of an argument is BLANK, if the PARAMETER's WORD in the BODY is, and otherwise not."
    String[] blanks = {";x ##y\nG(, A)", "0", ";x## y\nG(,A)", "1", "; x##y\nG(A,)", "1", ";x ##y\nG( A,)", "0",
        "; x ##y\nG(A,B)", "1", ";x ## y\nG( A, B)", "0", ";x\nG( A,)", "0", "; x\nG(A,)", "1"};
    for (int i = 0; i < blanks.length; i += 2) {
      run("#define G(x,y)" + blanks[i]);
      due(blanks[i + 1], () -> w.ofOut(1, 1));
    }
    run("#define F(x);x\nF(1 2)");
    due("0 1", () -> w.ofOut(1, 1) + " " + w.ofOut(2, 1));
    noWord();
  }

  private static void noWord() {
    // "If it is NO WORD, both stay, the second one neither BLANK nor NEW (error NO WORD, with both spellings as one text)."
    due("+A|14@0.1 +A|0", () -> run("#define G(x,y)x ## y\nG(+, A)") + "|" + errors() + "|" + w.ofOut(1, 1));
    due("+A1|14@0.1 +A", () -> run("#define G(x,y,z)x##y##z\nG(+,A,1)") + "|" + errors());
    due("+++|14@0.1 +++", () -> run("#define G(x,y,z)x##y##z\nG(+,+,+)") + "|" + errors());
    due("A;B|14@0.1 A;|14@0.1 ;B", () -> run("#define A A##;##B\nA") + "|" + errors());
    due("'it''s'A'x'|14@0.1 'it''s'A|14@0.1 A'x'", () -> run("#define A 'it''s'##A##'x'\nA") + "|" + errors());
    due("1 2;3|14@0.1 2;", () -> run("#define G(x,y)x##y\nG(1 2,;3)") + "|" + errors());
    // "At last EMPTY marks fall away; of more than 30 WORDS only the first 30 stay (error CUT)."
    String ten = "1 1 1 1 1 1 1 1 1 1";
    due("30|", () -> {
      run("#define F(x)x x x\nF(" + ten + ")");
      return w.ofRun(0) + "|" + errors();
    });
    due("30 1|12@0.1 F", () -> {
      run("#define F(x)x x x;\nF(" + ten + ")");
      return w.ofRun(0) + " " + w.outWord(29) + "|" + errors();
    });
    due("30 7|", () -> {
      run("#define G(x,y)x x x##y##y\nG(1 1 1 1 1 1 1 1 1 7,)");
      return w.ofRun(0) + " " + w.outWord(29) + "|" + errors();
    });
    due("30|12@0.1 G", () -> {
      run("#define G(x,y)x x x y##y\nG(" + ten + ",1)");
      return w.ofRun(0) + "|" + errors();
    });
    due("30|", () -> {
      run("#define G(x,y)x x x y##y\nG(" + ten + ",)");
      return w.ofRun(0) + "|" + errors();
    });
    // "Errors of what COMES IN are told when it is put there (NO WORD ones from left to right, then CUT)."
    due("30|14@0.1 +;|14@0.1 ;,|12@0.1 G", () -> {
      run("#define G(x,y)x x x y##;##, ;\nG(" + ten + ",+)");
      return w.ofRun(0) + "|" + errors();
    });
    due("9@0.3 F|14@0.3 +;|9@0.3 F", () -> errors("#define F(x)x\n#define A F(\n#define G(x,y)x y##;\nG(A,+)"));
    // "Then each of them hides besides what W hides and the NAME as which W is spelled, and to the end of its CHAIN goes the
    // whole CHAIN of W (of which only the first 8 PLACES in all are kept)."
    run("#define A B;\n#define B C\nA");
    due("110 10 200|11 200", () -> chain(0) + "|" + chain(1));
    due("2 true true|1 true false", () -> w.ofOut(0, 4) + " " + w.hides(0, 2) + " " + w.hides(0, 3) + "|" + w.ofOut(1, 4) + " "
        + w.hides(1, 2) + " " + w.hides(1, 3));
    run("#define F(x)x\nF(A)");
    due("102 100|1 true", () -> chain(0) + "|" + w.ofOut(0, 4) + " " + w.hides(0, 6));
    run("#define A B\n#define B C\n#define C D\n#define D F\n#define F G\n#define G H\n#define H x\n\nA");
    due("610 510 410 310 210 110 10 800", () -> chain(0));
    run("#define A B\n#define B C\n#define C D\n#define D F\n#define F G\n#define G H\n#define H x\n#define x y\nA");
    due("710 610 510 410 310 210 110 10|8|8", () -> chain(0) + "|" + w.ofOut(0, 4) + "|" + w.ofRun(12));
    refused(INDEX, () -> w.chain(0, 8), () -> w.chain(0, -1), () -> w.chain(1, 0), () -> w.chain(-1, 0));
  }

  private static void marks() {
    // "The first of them is BLANK and NEW, if W was, and otherwise not"
    run("#define A  B C\n;A\n A");
    due("0 0|1 0|1 1|1 0", () -> w.ofOut(1, 1) + " " + w.ofOut(1, 2) + "|" + w.ofOut(2, 1) + " " + w.ofOut(2, 2) + "|"
        + w.ofOut(3, 1) + " " + w.ofOut(3, 2) + "|" + w.ofOut(4, 1) + " " + w.ofOut(4, 2));
    // "if none comes in, the next WORD behind in the ROW AT HAND (which, with the call CLOSED, is that around it), if there
    // is one, is BLANK, if W was, and NEW, if W was, besides what it is"
    run("#define A\n1 A;A;\n A\nA;");
    due("1;;|;", () -> out());
    due("1 0|0 0|1 1", () -> w.ofOut(1, 1) + " " + w.ofOut(1, 2) + "|" + w.ofOut(2, 1) + " " + w.ofOut(2, 2) + "|"
        + w.ofOut(3, 1) + " " + w.ofOut(3, 2));
    run("#define A\n#define F()\n1 F();F();\nF();\nA; ;A");
    due("1;;|;|;;", () -> out());
    due("1 0|0 0|0 1|0 1|1 0", () -> all(5, i -> w.ofOut(i + 1, 1) + " " + w.ofOut(i + 1, 2)));
    due("';;' '; ;' true", () -> run("#define F(x)#x\n#define G(x)F(x)\n#define A\nG(;A;)G(; A;)") + " " + w.isSound());
    due("|0|0", () -> run("#define A\n#define F(x)\nA\nF(1)") + "|" + w.ofRun(0) + "|" + w.ofRun(1));
    // "Made of the BODY ("#" too), a WORD has TOLD of W, those of arguments keep theirs."
    run("#define F(x)x y #x\nF(\nA\n)");
    due("2 1 1", () -> line(3, k -> w.ofOut(k, 6)));
    // "Errors here have TOLD of W and as text the spelling of W, if nothing else is said."
    due("9@0.3 F", () -> errors("#define A F(\n#define F(x)x\n\nA"));
    due("9@3.7 F|9@3.8 F", () -> errors("#define F(x)x\n#line 7 3\nF(\nF("));
  }

  // ---- 6. Running a file

  private static void running() {
    // "A RUN begins with no NAME DEFINED, nothing OUT, no errors, and empties the DESK, which is as at first then. It ENTERS
    // its FILE, at depth 0."
    files("#define A 1\nA\n#x\n#once", "A");
    due("1 1", () -> w.run(0) + " " + w.run(1));
    due("A|", () -> out() + "|" + errors());
    due("1 1 0 0 0 1 0 0 0 0 0 0 0 1", () -> line(14, what -> w.ofRun(what)));
    due("0 1|0 0", () -> w.ofFile(0, 1) + " " + w.ofFile(1, 1) + "|" + w.ofFile(0, 2) + " " + w.ofFile(1, 2));
    due("0 0 0 0 0 1 0 0 0 0 0 0 0 2", () -> w.run(2) == 0 ? line(14, what -> w.ofRun(what)) : "");
    desk("#define F(x)x", "\nF(COUNT F()");
    w.load(1, 1);
    w.finish();
    due("3 3 0 2 1 9 1 0", () -> ofDesk());
    w.back();
    w.tail(2);
    w.run(0);
    due("0 0 0 0 0 -1 0 0 @", () -> ofDesk() + " " + w.desk());
    due("-7", () -> w.drop());
    w.put(12);
    w.cursor(0);
    w.finish();
    due("0@", () -> w.desk());
    desk("#define F(x)x", "F(1)");
    w.step();
    due("1 0", () -> w.ofDesk(2) + " " + w.run(0));
    due("0 0 0 0 0 -1 0 0 0", () -> ofDesk() + " " + w.cursor(0));
    orders();
    told();
    blocks();
    ifs();
    entered();
    keptOfRuns();
  }

  private static void orders() {
    // "A JOINED LINE whose first WORD is "#" is an ORDER; the next WORD tells which."
    due("1", () -> run("  #define   A  1 \nA"));
    due("1", () -> run("[]#define A[]1\nA"));
    due("##define A 1|A", () -> run("##define A 1\nA"));
    due("x#define A 1|A", () -> run("x#define A 1\nA"));
    due("'#define A 1'|A", () -> run("'#define A 1'\nA"));
    due("#x|", () -> run("#define A #x\nA") + "|" + errors());
    // ""#" alone is an ORDER that does nothing. Any other one is a BAD ORDER."
    due("", () -> errors("#\n # \n#[]"));
    due("1@0.0 #x|1@0.1 #1|1@0.2 #'x'|1@0.3 # #|1@0.4 #LINE|1@0.5 #(", () -> errors("#x\n#1\n#'x'\n# #\n#LINE\n#("));
    // "error: error TOLD, its text is TEXT OUT of what follows, as read."
    due("0@0.1 |0@0.2 A+B|0@0.3 'x'", () -> errors("#define A 1\n#error \n#error A  + [x]B\n#error 'x"));
  }

  private static void told() {
    // "TOLD are the FILE's number and the LINE's, until "# line" tells others (without a second one the FILE is told as
    // before)."
    due("0.0|7.3|8.3|12.3|13.3", () -> run(
        "LINE.FILE\n#line 7 3\nLINE.FILE\nLINE.FILE\n#line 12\nLINE.FILE\nLINE.FILE"));
    // "The next LINE that is read is TOLD as the first number, those behind by one more LINE by LINE"
    due("8|10", () -> run("#line \\\n7\n\nLINE\\\n\nLINE"));
    due("0 0|2", () -> run("LINE\\\n LINE\nLINE"));
    // "This holds till that FILE's end."
    due("0.1|7.3|0.1|7.3|2.0", () -> run("#include 1\n#include 1\nLINE.FILE", "LINE.FILE\n#line 7 3\nLINE.FILE"));
    due("12.2|0.1|14.2", () -> run("#line 12 2\nLINE.FILE\n#include 1\nLINE.FILE", "LINE.FILE"));
    // "the first 0 to 9999, the second 0 to 99 (otherwise a BAD ORDER)"
    due("0|", () -> run("#line 0\nLINE") + "|" + errors());
    due("9999|10000|", () -> run("#line 0x270F\nLINE\nLINE") + "|" + errors());
    due("1|1@0.0 #line 0x2710", () -> run("#line 0x2710\nLINE") + "|" + errors());
    due("0|", () -> run("#line 1 7\n#line 1 0\nFILE") + "|" + errors());
    due("99|", () -> run("#line 0b1011111\n\n\n\n\n#line 1 LINE\nFILE") + "|" + errors());
    due("0|1@0.100 #line 1 LINE", () -> run("#line 0b1011111\n\n\n\n\n\n#line 1 LINE\nFILE") + "|" + errors());
    due("1|1@0.0 #line 1 7777", () -> run("#line 1 7777\nLINE") + "|" + errors());
    // "what follows is EXPANDED; that must be one NUMBER, or two (otherwise a BAD ORDER; BAD NUMBER for the first one that
    // has no value)"
    due("7.1", () -> run("#define A 7 FILE1\n#define F(x)x\n#line F(7)0b101 \n#line 7 1\nLINE.FILE"));
    due("1@0.1 #line|1@0.2 #line A|1@0.3 #line 1 2 3|1@0.4 #line'x'|1@0.5 #line 1,2|1@0.6 #line-1",
        () -> errors("\n#line \n#line A\n#line 1 2 3\n#line 'x'\n#line 1,2\n#line -1"));
    due("8@0.0 0x|8@0.1 0x|8@0.2 0x|8@0.3 0x|8@0.4 9999999999", () -> errors(
        "#line 0x\n#line 1 0x\n#line 0x 9999999999\n#line 0x2710 0x\n#line 9999999999 0x"));
    due("1@0.0 #line 0x A", () -> errors("#line 0x A"));
    due("4", () -> run("#line A\n#line 0x\n#line 1 2 3\n#line 0x2710\nLINE"));
  }

  private static void blocks() {
    // "TAKEN JOINED LINES that are no ORDERS, one behind the other, with no ORDER between (those without WORDS, too)."
    due("1|", () -> run("#define F(x)x\nF(\n\n[]\n 1)") + "|" + errors());
    due("F(|1)|9@0.1 F", () -> run("#define F(x)x\nF(\n#\n1)") + "|" + errors());
    due("F(|1)|9@0.1 F|1@0.2 #x", () -> run("#define F(x)x\nF(\n#x\n1)") + "|" + errors());
    // "it is EXPANDED, and what is there then goes OUT, before the ORDER (or the end of the FILE) that ends the BLOCK is done"
    due("1|A|2", () -> run("#define A 1\nA\n#undef A\nA\n#define A 2\nA"));
    due("F(|1)|9@1.0 F", () -> run("#define F(x)x\n#include 1\n1)", "F(") + "|" + errors());
    due("F(|1)|9@0.1 F", () -> run("#define F(x)x\nF(\n#include 1", "1)") + "|" + errors());
    due("0|7", () -> run("COUNT\n#if COUNT==1\n7\n#endif"));
    // "An OUT LINE begins with each WORD that is NEW."
    due("A B|C|2 3", () -> run("\n A B\\\n\n\nC") + "|" + w.ofRun(1) + " " + w.ofRun(0));
    refused(INDEX, () -> w.outLine(2), () -> w.outLine(-1));
    due("1 1", () -> run("#define F(x)x\nF(\n1\n)\n") + " " + w.ofRun(1));
    // "each other JOINED LINE that has a WORD is SKIPPED (counted)"
    due("|4 1 0", () -> run("#if 0\nA\n\n[x]\n#x\n#\n#define B\n#endif") + errors() + "|" + w.ofRun(9) + " " + w.ofRun(8) + " "
        + w.ofRun(4));
    due("|1", () -> run("#if 0\nA\\\nB\n#endif") + errors() + "|" + w.ofRun(9));
    due("|0", () -> run("#if 1\n#endif\n\n[]") + errors() + "|" + w.ofRun(9));
  }

  private static void ifs() {
    // "it is ON, if its condition is true, and DONE, if it is ON"; "elif: if the IF is DONE, it is not ON; otherwise it is
    // ON and DONE, if the condition is true. else: it is ON, if it is not DONE, and then DONE."
    due("1|1", () -> run("#if 1\n1\n#elif 1\n2\n#elif 0\n2\n#else\n3\n#endif") + "|" + w.ofRun(8));
    due("2|2", () -> run("#if 0\n1\n#elif 1\n2\n#elif 1\n3\n#else\n7\n#endif") + "|" + w.ofRun(8));
    due("3|2", () -> run("#if 0\n1\n#elif 0\n2\n#else\n3\n#endif") + "|" + w.ofRun(8));
    due("1|1", () -> run("#if -1\n1\n#endif") + "|" + w.ofRun(8));
    due("|1", () -> run("#if 0\n1\n#endif") + "|" + w.ofRun(8));
    // "Otherwise it is not ON, but DONE, whatever follows." Only what is looked at counts as ASKED, a bad one, too.
    due("|1|", () -> run("#if 0\n#if 1\nA\n#elif 1\nB\n#else\nC\n#endif\nD\n#endif") + "|" + w.ofRun(8) + "|" + errors());
    due("|1|", () -> run("#if 0\n#if )\n#ifdef 1\n#ifndef A B\n#elif 0x\n#endif\n#endif\n#endif\n#endif") + "|" + w.ofRun(8)
        + "|" + errors());
    due("B", () -> run("#if 0\n#if 1\n#endif\n#else\nB\n#endif"));
    due("2|2|7@0.1 #elif", () -> run("#if 0\n#elif \n1\n#else\n2\n#endif") + "|" + w.ofRun(8) + "|" + errors());
    due("|1|", () -> run("#if 1\n#elif )\n1\n#endif") + "|" + w.ofRun(8) + "|" + errors());
    due("2|1|7@0.0 #if 1/0", () -> run("#if 1/0\n1\n#else\n2\n#endif") + "|" + w.ofRun(8) + "|" + errors());
    due("2|1|8@0.0 0x", () -> run("#if 0x\n1\n#else\n2\n#endif") + "|" + w.ofRun(8) + "|" + errors());
    // "ifdef (ifndef) is followed by one NAME and nothing else: true, if that is DEFINED or BUILT IN (is neither); otherwise
    // it is a BAD ORDER, and not true."
    String[] bad = {"1", "", "A B", "'A'", ";", "A("};
    for (String rest : bad) {
      for (String way : new String[] {"#ifdef ", "#ifndef "}) {
        run(way + rest + "\n1\n#else\n2\n#endif");
        due("2|1@0.0 " + w.plain(0, 0) + "|1 0", () -> out() + "|" + errors() + "|" + w.ofRun(8) + " " + w.ofRun(10));
      }
    }
    due("1|2|7", () -> run("#define A\n#ifdef A\n1\n#endif\n#ifdef LINE\n2\n#endif\n#ifndef MORE\n7\n#endif"));
    due("", () -> run("#define A\n#ifndef A\n1\n#endif\n#ifndef COUNT\n2\n#endif\n#ifdef defined\n7\n#endif"));
    // "error STRAY, and nothing else, if no IF of this FILE is open, or for elif and else if the IF opened last has had its
    // else"; "endif: the IF is closed. What follows else and endif is not looked at."
    due("4@0.0 #else|4@0.1 #endif|4@0.2 #elif 0x|0", () -> errors("#else\n#endif\n#elif 0x") + "|" + w.ofRun(8));
    due("1|2|3|7|4@0.3 #elif 1|4@0.5 #else|1", () -> run("#if 0\n#else\n1\n#elif 1\n2\n#else\n3\n#endif\n7") + "|" + errors()
        + "|" + w.ofRun(8));
    due("1|", () -> run("#if 1\n#else x(\n#endif )\n1") + "|" + errors());
    due("4@0.2 #endif", () -> errors("#if 1\n#endif\n#endif"));
    due("7|4@0.4 #else", () -> run("#if 0\n#if 1\n#else\n1\n#else\n#endif\n#else\n7\n#endif") + "|" + errors());
    due("2|1|4@1.0 #endif|4@1.1 #else|4@1.2 #elif 1", () -> run("#if 1\n#include 1\n1\n#endif", "#endif\n#else\n#elif 1\n2")
        + "|" + errors());
    // "At the end of a FILE each IF that is still open is an error OPEN (the one opened last comes first) and closed."; OPEN:
    // "TOLD and text of the ORDER that opened the IF"
    due("1|5@1.1 #if 1|5@1.0 #ifdef A", () -> run("#include 1\n1", "#ifdef A\n#if 1\n2") + "|" + errors());
    due("5@3.7 #if 1", () -> errors("#line 7 3\n#if 1\n#line 12\n#else"));
    due("8@0.0 0x|5@0.0 #if 0x", () -> errors("#if 0x"));
    run(n("#if 1\n", 9) + "#include 1", n("#if 1\n", 9) + "#include 2", n("#if 1\n", 9) + "#include 3", n("#if 1\n", 9) + "#if 1");
    due("37 37 5 3 9|0 0", () -> w.ofRun(2) + " " + w.ofRun(8) + " " + w.ofError(0, 0) + " " + w.ofError(0, 1) + " "
        + w.ofError(0, 2) + "|" + w.ofError(36, 1) + " " + w.ofError(36, 2));
  }

  private static void entered() {
    // "If this FILE is at depth 3 ... error DEEP"
    due("A|6@3.0 #include 0|3 4", () -> run("#include 1", "#include 2", "#include 3", "#include 0\nA") + "|" + errors() + "|"
        + w.ofRun(6) + " " + w.ofRun(5));
    due("6@0.0 #include 0|3 4", () -> errors("#include 0") + "|" + w.ofRun(6) + " " + w.ofRun(5));
    // "or 8 were ENTERED in this RUN (one as often as it was)"
    due("|8 1 7", () -> errors(n("#include 1\n", 6) + "#include 1", "") + "|" + w.ofRun(5) + " " + w.ofRun(6) + " "
        + w.ofFile(1, 1));
    due("6@0.7 #include 1|8 1 7", () -> errors(n("#include 1\n", 7) + "#include 1", "") + "|" + w.ofRun(5) + " " + w.ofRun(6)
        + " " + w.ofFile(1, 1));
    // "If in this RUN that FILE said "# once", nothing is done."
    due("A|", () -> run("#once\n#include 0\nA") + "|" + errors());
    due("6@3.1 #include 2", () -> errors("#include 1", "#once\n#include 2", "#include 3", "#include 1\n#include 2\n#include 1"));
    due("A|A|0", () -> run("#include 1\n#include 1", "#if 0\n#once\n#endif\nA") + "|" + w.ofFile(1, 2));
    due("A|1 1|", () -> run("#include 1\n#include 1", "A\n#once x(") + "|" + w.ofFile(1, 2) + " " + w.ofFile(1, 1) + "|"
        + errors());
    due("1 0", () -> w.run(0) + " " + (w.run(2) + w.ofFile(1, 2)));
    // "what follows is EXPANDED; that must be one NUMBER and nothing else, of a FILE (otherwise a BAD ORDER; BAD NUMBER, if
    // it has no value)"
    due("1@0.0 #include|1@0.1 #include A|1@0.2 #include 1 1|1@0.3 #include 1 A|1@0.4 #include'1'|1@0.5 #include 7", () ->
        errors("#include \n#include A\n#include 1 1\n#include 1 A\n#include '1'\n#include 7"));
    due("8@0.0 0x|8@0.1 9999999999|8@0.2 1A|1@0.3 #include 0b101|1@0.4 #include-1", () ->
        errors("#include 0x\n#include 9999999999\n#include 1A\n#include 0b101\n#include -1"));
    due("1@0.1 #include COUNT", () -> errors("COUNT COUNT COUNT COUNT\n#include COUNT"));
    due("A|", () -> run("COUNT COUNT COUNT\n#include COUNT", "", "", "A").substring(6) + "|" + errors());
    due("A|B|", () -> run("#define F(x)x\n#include F(03)\n#define C 2\n#include C", "", "B", "A") + "|" + errors());
    due("9@0.1 F|1@0.1 #include F(", () -> errors("#define F(x)x\n#include F("));
    due("1|2", () -> run("#include 1\n2", "1"));
    // "Otherwise that one is ENTERED, a depth deeper, and read to its end; then this one goes on."
    due("1|2|1|2|1 3", () -> run("#include 1\n#include 1", "#include 2\n2", "1") + "|" + (w.ofRun(6) - 1) + " "
        + (w.ofRun(5) - 2));
  }

  private static void keptOfRuns() {
    // LEANS: "the different NAMES that were REPLACED in the RUN, or that were looked up by ifdef or ifndef, or became 1 or 0
    // by defined in a condition that was looked at (from left to right, up to the first bad "defined")"
    run("#define A B\n#define B LINE\n#if defined x\n#elif defined(y)||defined 1||defined G\n#endif\n#ifdef z\n#endif\n"
        + "#ifndef D\n#endif\nA A");
    due("7|A|B|D|LINE|x|y|z", () -> w.ofRun(10) + "|" + all(7, i -> w.lean(i)));
    refused(INDEX, () -> w.lean(7), () -> w.lean(-1), () -> w.unused(0));
    run("#if 1\n#elif defined x\n#endif\n#if 0\n#ifdef y\n#endif\n#if defined z\n#endif\n#endif");
    due(0, () -> w.ofRun(10));
    run("#if defined(MORE)+defined defined\n#endif\n#define F(x)x\nF A");
    due("2|MORE|defined|1|F", () -> w.ofRun(10) + "|" + w.lean(0) + "|" + w.lean(1) + "|" + w.ofRun(11) + "|" + w.unused(0));
    // UNUSED: "the NAMES DEFINED at its end of which no WORD so spelled was REPLACED in it"
    run("#define A\n#define B\n#define C\nA\n#undef B\n#define B\n#undef C\n#undef A\n#define A 1");
    due("2|1|B", () -> w.ofRun(4) + "|" + w.ofRun(11) + "|" + w.unused(0));
    refused(INDEX, () -> w.unused(1), () -> w.unused(-1));
    due("-1 1|-1 0", () -> w.ofName(0, 0) + " " + w.ofName(0, 4) + "|" + w.ofName(1, 0) + " " + w.ofName(1, 4));
    // TRACE: "the NAMES REPLACED, STEP by STEP"
    run("#define A F(LINE)\n#define F(x)x\nA COUNT\n#line A");
    due("A|F|LINE|COUNT|A|F|LINE", () -> all(w.ofRun(3), k -> w.trace(k)));
    // "NAMES DEFINED at the end of the last RUN hold for all that is asked and for the DESK; a row that is EXPANDED there
    // changes nothing of the RUN."
    run("#define A 1\n#define B A\n#undef A\n#define C COUNT");
    w.empty(0);
    w.line(0, 85, 1, 17, 16, 2);
    due("A A 0 0definedA", () -> w.would(0, 0));
    due("2 true true false", () -> w.ofRun(4) + " " + w.isDefined(3) + " " + w.isDefined(4) + " " + w.isDefined(2));
    w.load(0, 0);
    w.finish();
    due("A A 0 0definedA@|0 0", () -> w.desk() + "|" + w.ofRun(3) + " " + w.ofRun(7));
  }

  // ---- 7. Conditions

  private static void conditions() {
    // ""defined" with a NAME behind, or with "(", a NAME and ")" behind, becomes the NUMBER "1", if the NAME is DEFINED or
    // BUILT IN, otherwise "0"...; anything else behind "defined" is a BAD CONDITION, and then nothing is EXPANDED."
    String[] defined = {"defined A", "0", "defined LINE", "1", "defined(LINE)", "1", "defined ( FILE )", "1", "defined MORE",
        "0", "defined defined", "0", "defined(defined)", "0", "!defined COUNT", "0", "defined A+defined LINE+1", "2",
        "defined", STATE, "1+defined", STATE, "defined 1", STATE, "defined 'A'", STATE, "defined()", STATE, "defined(",
        STATE, "defined(A", STATE, "defined(A,B)", STATE, "defined(1)", STATE, "defined((A))", STATE, "defined,A", STATE,
        "defined LINE 1", STATE, "defined LINE)", STATE};
    for (int i = 0; i < defined.length; i += 2) {
      String text = defined[i];
      due(defined[i + 1], () -> reckon(text));
    }
    due("7@0.1 #if COUNT+defined 1|0 0|1", () -> errors("#define A\n#if COUNT+defined 1\n#endif") + "|" + w.ofRun(3) + " "
        + w.ofRun(7) + "|" + w.ofRun(8));
    due("1|2", () -> run("#define A B\n#if defined A\n1\n#endif\n#if defined B\n#else\n2\n#endif"));
    due("1|2|", () -> run("#define F(x)1##x\n#if F(defined A)==10\n1\n#endif\n#if F(defined F)==11\n2\n#endif") + "|" + errors());
    // ""defined" that comes in by EXPANDING is a NAME like others."
    due("2", () -> run("#define A defined\n#define F(x)x LINE\n#if A\n1\n#else\n2\n#endif\n#if F(A)\n#endif"));
    due("7@0.4 #if F(A)", () -> errors("#define A defined\n#define F(x)x B\n#if A\n#endif\n#if F(A)\n#endif"));
    values();
    longNumbers();
    ranks();
    // "From left to right the first WORD that cannot go on so, or is a NUMBER without a value where an operand belongs, tells
    // which error it is."
    String[] first = {"1 2 0x", "7", "1 0x", "7", "0x 1", "8", "0x)", "8", ")0x", "7", "1+0x+)", "8", "1+)+0x", "7", "(0x", "8",
        "(1", "7", "1)", "7", "1?0x", "8", "1?2", "7", "1:0x", "7", "1?2:0x", "8", "(1?2):0x", "7", "0||0x", "8", "1||0x", "8",
        "", "7", "!", "7", "()", "7", "1 'x'", "7", "'x'", "7", "A 0x", "7", "A(0x)", "7", "++1", "7", "1++1", "7", "1=1", "7",
        "1,1", "7", "1!1", "7", "1~1", "7", "*1", "7", "1 defined", "7", "1?2:3:7", "7", "1?2:", "7", "1?:2", "7", "#", "7",
        "-0x", "8", "1/0+0x", "8", "0?1:2?3", "7"};
    for (int i = 0; i < first.length; i += 2) {
      String text = first[i];
      String want = first[i + 1];
      run("#if " + text + "\n1\n#else\n2\n#endif");
      due("2|" + want + "@0.0 " + (want.equals("8") ? "0x" : w.plain(0, 0)), () -> out() + "|" + errors());
      due(STATE, () -> reckon(text));
    }
    // "Errors of EXPANDING it (MISFIT, say) alone do not matter to it."
    due("1|14@0.1 1+", () -> run("#define G(x,y)x##y\n#if G(1,+1)==2\n1\n#endif") + "|" + errors());
    due("10@0.1 F|7@0.1 #if F(1)", () -> errors("#define F(x,y)x\n#if F(1)\n#endif"));
    due("1|13@1.2 COUNT", () -> {
      files(COUNTS + "COUNT COUNT COUNT COUNT COUNT COUNT COUNT COUNT", "#include 0\n#if 0\n#elif COUNT==0\n1\n#endif");
      w.run(1);
      return w.outWord(80) + "|" + errors();
    });
    // BAD NUMBER and BAD CONDITION of what comes in by EXPANDING
    due("8@0.1 9999999999|1", () -> errors("#define A 9999999999\n#if A\n#endif") + "|" + w.ofRun(8));
    due("7@0.1 #if A", () -> errors("#define A 1 2\n#if A\n#endif"));
    refused(INDEX, () -> w.reckon(0, 3), () -> w.reckon(0, -1), () -> w.reckon(4, 0));
  }

  private static void values() {
    // VALUE: "behind "0x" (not "0X") by base 16, behind "0b" by base 2, else behind a first "0" with signs behind it by base
    // 8, else by base 10; of all signs there (at least one) each must be a digit of that base (letters of either size), and it
    // is at most 2147483647"
    String[] values = {"0", "0", "00", "0", "000", "0", "017", "15", "12", "12", "0x1F", "31", "0x0", "0", "0xA", "10", "0x0b101", "45313", "10b101", STATE, "0xF",
        "15", "0xdefined", STATE, "0x7FFFFFFF", "2147483647", "0x00007FFFFFFF", "2147483647", "0x1FFFFFFFF", STATE,
        "017777777777", "2147483647", "020000000000", STATE, "0x", STATE, "0xG", STATE, "0x_", STATE, "0b101", "5", "0b1010",
        "10", "0b1012", STATE, "0b101A", STATE, "1A", STATE, "1_", STATE, "0_", STATE, "01A", STATE, "0B1", STATE, "0A", STATE,
        "2133333333", "2133333333", "2222222222", STATE, "9999999999", STATE, "0y", STATE,
        "1x", STATE, "017x", STATE, "0b101" + n("1", 28), "1610612735", "0b101" + n("1", 29), STATE};
    for (int i = 0; i < values.length; i += 2) {
      String text = values[i];
      due(values[i + 1], () -> reckon(text));
      due(values[i + 1], () -> w.number(0, 0, 0));
    }
    files("A 1 'x' ;\n0x");
    refused(STATE, () -> w.number(0, 0, 0), () -> w.number(0, 0, 2), () -> w.number(0, 0, 3), () -> w.number(0, 1, 0));
    refused(INDEX, () -> w.number(0, 0, 4), () -> w.number(0, 0, -1), () -> w.number(0, 2, 0), () -> w.number(0, 1, 1));
    due(1, () -> w.number(0, 0, 1));
    due("1", () -> run("#define F(x,y)x##y\n#if F(0x,F)==017\n1\n#endif"));
  }

  /** A NUMBER of many "0" with what goes ahead of them and behind them, made by PASTING, as a condition. */
  private static Object longNumber(String ahead, int nines, String behind) {
    files("#define F(x)x##x##x##x##x##x##x##x##x\n#define G(x)F(x)\n#define C(x,y)D(x,y)\n#define D(x,y)x##y\n"
        + lines("C(" + ahead + ",C(" + n("G(", nines) + "0" + n(")", nines) + "," + behind + "))"));
    w.run(0);
    return w.reckon(0, 4);
  }

  private static void longNumbers() {
    // the same: "of all signs there", however many
    due("true", () -> longNumber("", 4, "").equals(0) && w.outWord(0).equals(n("0", 6561)));
    due("true", () -> longNumber("0x", 4, "0").equals(0) && w.outWord(0).equals("0x" + n("0", 6562)));
    String[][] rows = {{"0", "1", "1"}, {"0", "17777777777", "2147483647"}, {"0", "20000000000", STATE}, {"0", "017", "15"},
        {"0", "9999999999", STATE}, {"0", "12x", STATE}, {"0x", "7FFFFFFF", "2147483647"}, {"0x", "1F", "31"},
        {"0x0", "1FFFFFFFF", STATE}, {"0x", "_", STATE}, {"0x", "xF", STATE}, {"0x", "FG", STATE}, {"0x1", "", STATE},
        {"0b101", "1", STATE}, {"1", "", STATE}, {"2", "3", STATE}, {"0", "A", STATE}, {"0_", "1", STATE}, {"_", "1", "0"},
        {"xF", "1", "0"}, {"0", "3F", STATE}, {"0x", "defined", STATE}, {"0x", "DFA12", "915986"}};
    for (String[] row : rows) {
      for (int nines = row[0].equals("1") || row[0].equals("0b101") ? 2 : 1; nines < 5; nines++) {
        int many = nines;
        due(String.join(" ", row[0], row[1], row[2]), () -> row[0] + " " + row[1] + " " + answer(() -> longNumber(row[0], many, row[1])));
      }
    }
    // "0x" and the signs behind it come from different parts
    String pastes = "#define F(x)x##x##x##x##x##x##x##x##x\n#define G(x)F(x)\n#define B(x)G(G(G(x)))\n#define C(x,y)D(x,y)\n#define D(x,y)x##y\n";
    due("17", () -> {
      files(pastes + lines("C(0,C(x,C(B(0),11)))"));
      w.run(0);
      return w.reckon(0, 5);
    });
    due("17", () -> {
      files(pastes + lines("C(C(0,C(x,B(0))),11)"));
      w.run(0);
      return w.reckon(0, 5);
    });
    // digits that are not 0 in different parts
    due("15 31", () -> {
      files(pastes + lines("C(0,C(C(B(0),1),7))") + "\n" + lines("C(0x,C(C(B(0),1),F))"));
      w.run(0);
      return w.reckon(0, 5) + " " + w.reckon(0, 6);
    });
    // ORDERS that ask for a VALUE
    due("3||1", () -> run(pastes + "#if C(B(0),1)\n3\n#endif") + "|" + errors() + "|" + w.ofRun(8));
    due("3||2", () -> run(pastes + "#if C(B(0),0)\n7\n#elif C(B(0),1)\n3\n#endif") + "|" + errors() + "|" + w.ofRun(8));
    due("2|", () -> run(pastes + "#include C(B(0),1)", "2") + "|" + errors());
    due("15 10|", () -> run(pastes + "#line C(B(0),17)C(B(0),12)\nLINE FILE") + "|" + errors());
    String number = n("0", 729);
    due("8@0.5 " + number + "_", () -> errors(pastes + "#if C(B(0),_)\n#endif"));
    due("8@0.5 " + number + "3x", () -> errors(pastes + "#include C(B(0),3x)"));
    due("8@0.5 " + number + "_", () -> errors(pastes + "#line 1 C(B(0),_)"));
    due("1@0.5 #include C(B(0),7)", () -> errors(pastes + "#include C(B(0),7)"));
    due("1@0.5 #line C(B(0),030000)", () -> errors(pastes + "#line C(B(0),030000)"));
    // more signs than an int counts
    files("#define F(x)" + n("x##", 9) + "x\n#define G(x)F(x)\n#define B(x)C(G(G(G(x))))\n#define C(x)D(G(G(G(x))))\n"
        + "#define D(x)H(G(G(G(x))))\n#define H(x)G(G(G(x)))\n#define A(x,y)_(x,y)\n#define _(x,y)x##y", "A(B(0),1)\n"
        + "A(0x,A(B(0),F))\nA(B(x),1)\nA(B(0),_)\nA(B(1),0)");
    w.run(0);
    due("1 15 0", () -> w.reckon(1, 0) + " " + w.reckon(1, 1) + " " + w.reckon(1, 2));
    refused(STATE, () -> w.reckon(1, 3), () -> w.reckon(1, 4));
  }

  private static void ranks() {
    String[] ranks = {
        // from the loosest one; "Of one rank the left one is first."
        "1?2:3", "2", "0?2:3", "3", "1?0:3?7:12", "0", "0?1:0?7:12", "12", "1?0?1:2:3", "2", "0?1:1?7:12", "7",
        "1||0?2:3", "2", "1?2:3||1", "2", "0?2:3||1", "1", "1||0&&0", "1", "0&&0||1", "1", "(1||0)&&0", "0",
        "0&&1|1", "0", "2|1&&1", "1", "1|2^3", "1", "(1|2)^3", "0", "2^3&1", "3", "(2^3)&1", "1", "3&2==2", "1", "(3&2)==2", "1",
        "2==2&3", "1", "1==2<3", "1", "(1==2)<3", "1", "3==2<3", "0", "2!=3==1", "1", "2!=(3==1)", "1", "1<2<<1", "1",
        "(1<2)<<1", "2", "3<2<1", "1", "7>3>2", "0", "1<<1+1", "4", "(1<<1)+1", "3", "12>>1>>1", "3", "12>>(1>>1)", "12",
        "7-3-2", "2", "7-(3-2)", "6", "1+2*3", "7", "(1+2)*3", "9", "12/3*2", "8", "12/(3*2)", "2", "12%7*2", "10",
        "12-7%3", "11", "-1+2", "1", "-(1+2)", "-3", "!0+1", "2", "!(0+1)", "0", "~0&1", "1", "~(0&1)", "-1",
        // "ahead of an operand, any number of ! - + ~"
        "- -1", "1", "-+-1", "1", "!!7", "1", "!~-+-!1", "0", "1- -1", "2", "1+-1", "0", "1-~0", "2", "3*-2", "-6",
        // "Operands: a NUMBER, a NAME (0), a condition in brackets."
        "A", "0", "A+1", "1", "F", "0", "((((((((7))))))))", "7", "(A)", "0",
        // "All is reckoned in 32 bits with a sign and wraps around."
        "0x7FFFFFFF+1", "-2147483648", "-0x7FFFFFFF-2", "2147483647", "0x7FFFFFFF*2", "-2", "-(-0x7FFFFFFF-1)", "-2147483648",
        "~0x7FFFFFFF", "-2147483648", "(-0x7FFFFFFF-1)/-1", "-2147483648", "(-0x7FFFFFFF-1)%-1", "0",
        "0x10000*0x10000", "0", "(-0x7FFFFFFF-1)<0", "1",
        // "/ is divided towards 0, % has the sign of the left one."
        "7/2", "3", "-7/2", "-3", "7/-2", "-3", "-7/-2", "3", "7%2", "1", "-7%2", "-1", "7%-2", "1", "-7%-2", "-1", "0%7", "0",
        // "<< and >> (which keeps the sign) go by the lowest five bits of the right one."
        "1<<0", "1", "1<<0x1F", "-2147483648", "1<<0x20", "1", "1<<0x21", "2", "1<<-1", "-2147483648",
        "-1>>1", "-1", "-2>>0x1F", "-1", "-2>>0x20", "-2", "7>>-1", "0", "-7>>1", "-4", "12>>2", "3",
        // "Comparisons, !, && and || give 1 or 0; all but 0 is true."
        "1<2", "1", "2<2", "0", "3<2", "0", "1<=2", "1", "2<=2", "1", "3<=2", "0", "3>2", "1", "2>2", "0", "1>2", "0", "3>=2",
        "1", "2>=2", "1", "1>=2", "0", "2==2", "1", "1==2", "0", "2!=2", "0", "1!=2", "1", "!0", "1", "!7", "0", "!-1", "0",
        "2&&3", "1", "2&&0", "0", "0&&2", "0", "0&&0", "0", "2||0", "1", "0||3", "1", "0||0", "0", "2||3", "1", "-1&&-1", "1",
        "-1<0", "1", "-1?2:3", "2", "12&7", "4", "12|3", "15", "12^7", "11",
        // "/ and % by 0 have NO VALUE; of NO VALUE comes NO VALUE, but && with a left 0 is 0, || with a left one that is true
        // is 1, and of the last two parts of ? : only the one that is chosen matters. A condition with NO VALUE is a BAD
        // CONDITION."
        "1/0", STATE, "1%0", STATE, "0/0", STATE, "-(1/0)", STATE, "!(1/0)", STATE, "+(1/0)", STATE, "~(1%0)", STATE,
        "1/0+1", STATE, "1+1/0", STATE, "0*(1/0)", STATE, "(1/0)*0", STATE, "(1/0)==(1/0)", STATE, "(1/0)/0", STATE,
        "0&&1/0", "0", "1&&1/0", STATE, "1/0&&0", STATE, "1/0&&1", STATE, "1||1/0", "1", "-1||1/0", "1", "0||1/0", STATE,
        "1/0||1", STATE, "1/0||0", STATE, "1?2:1/0", "2", "0?1/0:2", "2", "1?1/0:2", STATE, "0?2:1/0", STATE, "1/0?1:1", STATE,
        "0&&(1/0||1)", "0", "(0&&1/0)+1", "1", "(1||1%0)+1", "2", "0?1/0:1?2:1/0", "2", "1<<(1/0)", STATE, "1/A", STATE,
        "(1/0)|1", STATE, "0&(1/0)", STATE};
    for (int i = 0; i < ranks.length; i += 2) {
      String text = ranks[i];
      due(ranks[i + 1], () -> reckon(text));
    }
    // as many operands and brackets as a JOINED LINE holds
    due(7, () -> reckon(lines(n("(", 150) + "7" + n(")", 150))));
    due(-1, () -> reckon(lines(n("~", 301) + "0")));
    due(0, () -> reckon(lines(n("1-(", 80) + "0" + n(")", 80))));
    due(12, () -> reckon(lines(n("0?1:", 99) + "12")));
    due(2, () -> reckon(lines(n("1?", 79) + "2" + n(":0", 79))));
    due(120, () -> reckon(lines(n("1+", 119) + "1")));
    due(STATE, () -> reckon(lines(n("(", 150) + "7" + n(")", 149))));
    // a condition that is not true for NO VALUE is told with the ORDER
    due("2|7@0.0 #if 1/0|7@0.1 #elif 1%0", () -> run("#if 1/0\n#elif 1%0\n1\n#else\n2\n#endif") + "|" + errors());
  }

  // ---- 8. Errors

  private static void errorsTold() {
    // "By ORDERS: TOLD of their JOINED LINE, as text TEXT OUT of all the ORDER as read, with "#", if nothing else is said."
    String told = "#line 12 7\n";
    String[] each = {"#error A B", "0@7.12 A B", "#undef  A  B", "1@7.12 #undef A B", "#define A 1\n#define A 2", "2@7.13 A",
        "#endif [x]1", "4@7.12 #endif 1", "#if  0", "5@7.12 #if 0", "#if 1+\n#endif", "7@7.12 #if 1+",
        "#if 1+0x\n#endif", "8@7.12 0x", "#define F(x)\nF(", "9@7.13 F", "#define F(x)\nF(,)", "10@7.13 F",
        "#define F(x)x\nF(F(F(F(F(F(F()))))))", "11@7.13 F", "#define F(x)x x x x\nF(A B C A B C A B)", "12@7.13 F",
        "#define A +##-\n\nA", "14@7.14 +-", "A\\\n+\n#x \\\n[]A", "1@7.14 #x A", "#include \\\n 7",
        "1@7.12 #include 7"};
    for (int i = 0; i < each.length; i += 2) {
      String text = told + each[i];
      due(each[i + 1], () -> errors(text));
    }
    due("6@7.12 #include 0", () -> errors(told + "#include 0").substring(0, 17));
    String eight = "#define A\n#define B\n#define C\n#define D\n#define F\n#define G\n#define H\n#define x";
    due("3@7.13 y", () -> errors(told + "#include 1\n#define  y  1", eight));
    // as they came
    due("1@0.0 #x|14@0.2 +-|9@0.3 F|0@0.4 B|5@0.5 #if 1", () -> errors(
        "#x\n#define F(x)+##-x\nF()\nF(\n#error B\n#if 1"));
    refused(INDEX, () -> w.ofError(5, 0), () -> w.ofError(-1, 0), () -> w.errorText(5), () -> w.errorText(-1),
        () -> w.ofError(5, 3));
    refused(ARGUMENT, () -> w.ofError(0, 3), () -> w.ofError(4, -1));
  }

  // ---- 9. The desk

  private static void desks() {
    errorsTold();
    // "at first and after a RUN none"
    files();
    due("@|0 0 0 0 0 -1 0 0", () -> w.desk() + "|" + ofDesk());
    due("-9 -9 -7 -7 0 0 0", () -> w.ahead() + " " + w.back() + " " + w.drop() + " " + w.swap(2) + " " + w.step() + " "
        + w.finish() + " " + w.cursor(0));
    refused(INDEX, () -> w.cursor(1), () -> w.cursor(-1));
    // "It is EXPANDED LOOK by LOOK from where the POINT stands, with NAMES of the last RUN."
    desk("#define A 1", "A A A");
    w.cursor(2);
    w.empty(0);
    due("2A A 1@", () -> w.finish() + w.desk());
    due("0A A 1@", () -> w.finish() + w.desk());
    w.cursor(0);
    due("3@1 A 1", () -> w.step() + w.desk());
    openCalls();
    touches();
    puts();
    lost();
  }

  private static void openCalls() {
    // "Between LOOKS, if no call is OPEN, the POINT can be moved and WORDS can be put, swapped and dropped."
    desk("#define F(x)x\n#define G(x)#x", "A F(B)G()");
    w.ahead();
    w.ahead();
    w.back();
    due(4, () -> w.step());
    refused(STATE, () -> w.ahead(), () -> w.back(), () -> w.drop(), () -> w.put(2), () -> w.put(0), () -> w.swap(2),
        () -> w.tail(2), () -> w.tail(0), () -> w.cursor(0), () -> w.cursor(8));
    refused(ARGUMENT, () -> w.put(96), () -> w.swap(85), () -> w.swap(-1), () -> w.tail(96));
    refused(INDEX, () -> w.cursor(9), () -> w.cursor(-1));
    due("A F(@B)G()|8 3 1 1 0 -1 0 0", () -> w.desk() + "|" + ofDesk());
    w.step();
    refused(STATE, () -> w.ahead(), () -> w.cursor(0));
    due("5 -7 0", () -> w.step() + " " + w.drop() + " " + w.cursor(5));
    w.cursor(1);
    due("1 4", () -> w.step() + " " + w.step());
    refused(STATE, () -> w.back(), () -> w.put(2));
    due("5 A B@'' 4", () -> w.step() + " " + w.desk() + " " + (w.ahead() + 2));
    // load() while a call is OPEN
    w.load(1, 0);
    w.step();
    w.step();
    due("8|8 0 0 0 0 -1 0 0", () -> w.load(1, 0) + "|" + ofDesk());
  }

  /** A DESK with "A B C", the POINT behind B, which is TOUCHED. */
  private static void touch() {
    desk("#define F(x)x", "A B C");
    w.ahead();
    w.ahead();
  }

  private static void touches() {
    // "TOUCHED is the WORD over which ahead() or back() last went, until ahead() or back() again (which touches another one,
    // or finds none), drop(), put() that puts a WORD, a LOOK (any, also one that finds nothing left), cursor() or load();
    // swap() puts another WORD there, which is TOUCHED then."
    touch();
    due("2A@C", () -> w.drop() + w.desk());
    due(-7, () -> w.drop());
    due(-7, () -> w.swap(2));
    touch();
    due("0 2A B@", () -> w.ahead() + " " + w.drop() + w.desk());
    touch();
    due("0 2A@C", () -> w.back() + " " + w.drop() + w.desk());
    touch();
    due("0 0 2@B C", () -> w.back() + " " + w.back() + " " + w.drop() + w.desk());
    touch();
    w.ahead();
    due("-9 -7", () -> w.ahead() + " " + w.drop());
    touch();
    w.back();
    w.back();
    due("-9 -7", () -> w.back() + " " + w.drop());
    touch();
    due("1 -7", () -> w.put(28) + " " + w.drop());
    touch();
    due("0 0 0 2A@C", () -> w.put(0) + " " + w.put(1) + " " + w.put(52) + " " + w.drop() + w.desk());
    touch();
    due("1 -7", () -> w.step() + " " + w.drop());
    touch();
    due("1 -7", () -> w.finish() + " " + w.drop());
    touch();
    w.ahead();
    due("0 -7", () -> w.step() + " " + w.drop());
    touch();
    w.ahead();
    due("0 -7", () -> w.finish() + " " + w.drop());
    touch();
    due("0 -7", () -> w.cursor(2) + " " + w.drop());
    touch();
    due("3 -7", () -> w.load(1, 0) + " " + w.drop());
    touch();
    due("3 A;@C", () -> w.swap(50) + " " + w.desk());
    due("1 A 12@C", () -> w.swap(22) + " " + w.desk());
    due("2A@C", () -> w.drop() + w.desk());
    touch();
    w.back();
    due("2 A@''C", () -> w.swap(51) + " " + w.desk());
    due("2A@C", () -> w.drop() + w.desk());
    touch();
    refused(ARGUMENT, () -> w.swap(0), () -> w.swap(1), () -> w.swap(52), () -> w.swap(85), () -> w.swap(96), () -> w.put(-1),
        () -> w.tail(96));
    refused(INDEX, () -> w.cursor(4), () -> w.cursor(-1), () -> w.load(1, 1), () -> w.load(4, 0));
    due("2A@C", () -> w.drop() + w.desk());
    touch();
    due("3 0 2A@C", () -> w.tail(0) + " " + w.ofDesk(7) + " " + w.drop() + w.desk());
    // "Returns the KIND of this WORD"
    desk("", "A 1'x';");
    due("0 1 2 3 -9 3 2 1 0 -9", () -> line(5, i -> w.ahead()) + " " + line(5, i -> w.back()));
    // cursor(): 0 to how many WORDS there are
    due("0 0 0 0 0", () -> line(5, k -> w.cursor(k)));
    due("A 1'x';@", () -> w.desk());
    refused(INDEX, () -> w.cursor(5), () -> w.cursor(-1), () -> w.cursor(Integer.MAX_VALUE), () -> w.cursor(Integer.MIN_VALUE));
  }

  private static void puts() {
    // "Puts the WORDS of a PIECE ahead of the POINT, in their order"; "the first one is not BLANK unless the PIECE begins with
    // a blank"; they "are not NEW"
    desk("#define F(x)#x", "A B");
    w.cursor(1);
    due("3A A B C@B", () -> w.put(85) + w.desk());
    files("#define F(x)#x");
    w.run(0);
    for (int piece : new int[] {90, 50, 50, 86, 50, 85, 18, 29}) {
      w.put(piece);
    }
    w.cursor(0);
    w.finish();
    due("';; ==;A B C 1'@", () -> w.desk());
    files("#define F(x)#x");
    w.run(0);
    w.put(90);
    w.put(50);
    w.put(50);
    w.ahead();
    w.back();
    w.swap(86);
    w.back();
    w.swap(44);
    w.tail(31);
    w.tail(57);
    w.tail(29);
    w.cursor(0);
    w.finish();
    due("'& ==. ##'@", () -> w.desk());
    // of the row that is loaded the first WORD is NEW, and BLANK in an argument
    desk("#define F(x)#x", ";");
    w.put(90);
    w.put(50);
    w.tail(29);
    w.cursor(0);
    w.finish();
    due("'; ;'@", () -> w.desk());
    // "and have TOLD of the row that was loaded (0 and 0 without)"
    files("", "", "A", "\n;");
    w.put(12);
    w.tail(13);
    w.cursor(0);
    w.finish();
    due("0 0@", () -> w.desk());
    w.load(3, 1);
    w.put(12);
    w.tail(13);
    w.cursor(2);
    w.back();
    w.swap(13);
    w.cursor(0);
    w.finish();
    due("1 3 3@", () -> w.desk());
    w.load(2, 0);
    w.put(12);
    w.put(13);
    w.cursor(0);
    w.finish();
    due("0 2 A@", () -> w.desk());
    // "IllegalStateException if a call is OPEN, or there are 100 WORDS or more"
    files();
    for (int i = 0; i < 33; i++) {
      w.put(85);
    }
    due("99 3 102", () -> w.ofDesk(0) + " " + w.put(85) + " " + w.ofDesk(0));
    refused(STATE, () -> w.put(2), () -> w.put(0), () -> w.tail(2), () -> w.tail(0));
    refused(ARGUMENT, () -> w.put(96), () -> w.tail(-1));
    due("0 0 101", () -> w.back() + " " + w.swap(3) + " " + w.drop());
    refused(STATE, () -> w.put(1), () -> w.tail(52));
    w.back();
    due("100", () -> w.drop());
    refused(STATE, () -> w.put(2), () -> w.put(0), () -> w.tail(2), () -> w.tail(0));
    w.back();
    due("99 100 -8", () -> w.drop() + " " + w.tail(2) + " " + w.step());
    refused(STATE, () -> w.put(2), () -> w.put(0), () -> w.tail(0));
    due("1 100", () -> w.cursor(100) + " " + w.ofDesk(1));
    // "drop(): Returns how many WORDS there are then"
    desk("", "A");
    w.ahead();
    due("0@", () -> w.drop() + w.desk());
    // "would(): TEXT OUT of the JOINED LINE from there, EXPANDED (an ORDER, too, as any other row)"
    desk("#define A 1", "#define A x");
    due("#define 1 x|4", () -> w.would(1, 0) + "|" + w.ofWould(1, 0, 0));
    w.finish();
    due("#define 1 x@", () -> w.desk());
  }

  private static void lost() {
    // "tail() puts WORDS behind all others without the POINT: then the POINT is LOST, and what needs it tells -8 and does
    // nothing, till cursor() lays it anew."
    touch();
    due("6A B@C A B C1", () -> w.tail(85) + w.desk() + w.ofDesk(7));
    long before = w.digest();
    due("-8 -8 -8 -8 -8 -8 -8 -8", () -> w.step() + " " + w.finish() + " " + w.ahead() + " " + w.back() + " " + w.drop() + " "
        + w.put(2) + " " + w.put(0) + " " + w.swap(2));
    due(before, () -> w.digest());
    refused(ARGUMENT, () -> w.put(96), () -> w.swap(85), () -> w.tail(96));
    refused(INDEX, () -> w.cursor(7), () -> w.cursor(-1));
    due("6 1", () -> w.tail(0) + " " + w.ofDesk(7));
    due("7 1A B@C A B C F", () -> w.tail(6) + " " + w.ofDesk(7) + w.desk());
    due("1 0 0A B C A B C F@", () -> w.cursor(2) + " " + w.ofDesk(7) + " " + w.cursor(7) + w.desk());
    due("-7", () -> w.drop());
    // without WORDS nothing changes
    due("7 7 7 0", () -> w.tail(0) + " " + w.tail(1) + " " + w.tail(52) + " " + w.ofDesk(7));
    w.tail(2);
    due("3 0 0", () -> w.load(1, 0) + " " + w.ofDesk(7) + " " + w.cursor(1));
    w.tail(2);
    due("0 0", () -> w.run(0) + " " + w.ofDesk(7));
    // the POINT of an empty DESK
    due("1 -8 1 1", () -> w.tail(2) + " " + w.ahead() + " " + w.cursor(0) + " " + w.step());
  }

  // ---- what the promises say besides

  private static void promises() {
    // each "what" and each number from the least to the greatest, and no other one; of several exceptions the one that is
    // named first is thrown
    files("#define A B\n#define F(x, ...)x\nA F(A\n1) LINE\n#x", "A 1");
    w.run(0);
    w.load(1, 0);
    for (int k : new int[] {-1, 99, Integer.MIN_VALUE, Integer.MAX_VALUE}) {
      refused(ARGUMENT, () -> w.ofWord(1, 0, 0, k), () -> w.ofRun(k), () -> w.ofFile(0, k), () -> w.ofOut(0, k),
          () -> w.ofError(0, k), () -> w.ofName(0, k), () -> w.ofWould(1, 0, k), () -> w.ofDesk(k), () -> w.hides(0, k));
      refused(INDEX, () -> w.word(1, 0, k), () -> w.ofWord(1, 0, k, 9), () -> w.number(1, 0, k), () -> w.again(1, 0, k),
          () -> w.outWord(k), () -> w.ofOut(k, 9), () -> w.outLine(k), () -> w.chain(k, 0), () -> w.chain(0, k),
          () -> w.hides(k, 96), () -> w.trace(k), () -> w.ofError(k, 3), () -> w.errorText(k), () -> w.name(k),
          () -> w.ofName(k, 5), () -> w.body(k), () -> w.lean(k), () -> w.unused(k), () -> w.cursor(k));
    }
    refused(ARGUMENT, () -> w.ofWord(1, 0, 0, 4), () -> w.ofRun(14), () -> w.ofFile(0, 4), () -> w.ofOut(0, 9),
        () -> w.ofError(0, 3), () -> w.ofName(0, 5), () -> w.ofWould(1, 0, 4), () -> w.ofDesk(8), () -> w.hides(3, 96));
    refused(INDEX, () -> w.word(1, 0, 2), () -> w.ofWord(1, 0, 2, 4), () -> w.number(1, 0, 2), () -> w.again(1, 0, 2),
        () -> w.outWord(4), () -> w.ofOut(4, 9), () -> w.outLine(1), () -> w.chain(0, 2), () -> w.chain(4, 0),
        () -> w.hides(4, 96), () -> w.trace(4), () -> w.ofError(1, 3), () -> w.errorText(1), () -> w.name(2),
        () -> w.ofName(2, 5), () -> w.body(2), () -> w.lean(3), () -> w.unused(0), () -> w.cursor(3),
        () -> w.ofFile(4, 4), () -> w.ofWould(4, 0, 4), () -> w.ofWould(1, 1, 4), () -> w.ofWord(1, 1, 0, 4));
    due("B B 1 3|3|#x|LINE", () -> w.outLine(0) + "|" + w.outWord(3) + "|" + w.errorText(0) + "|" + w.trace(3));
    due("F|x|LINE|1", () -> w.name(1) + "|" + w.body(1) + "|" + w.lean(2) + "|" + w.number(1, 0, 1));
    due("0 1 0 3 2 0 2 1 66|10 204 202", () -> ofOut(1) + "|" + chain(1));
    due("1 1 0 2 1 0 3 1 49|300 202", () -> ofOut(2) + "|" + chain(2));
    due("1 1 0 1 0 0 3 1 51|303", () -> ofOut(3) + "|" + chain(3));
    due("4 1 1 4 2 1 0 0 0 0 3 0 2 0", () -> line(14, what -> w.ofRun(what)));
    due("-1 0 1 8 2|2 1 1 108 1", () -> line(5, what -> w.ofName(0, what)) + "|" + line(5, what -> w.ofName(1, what)));
    reads();
    ofFiles();
    manyNames();
    house();
    longTexts();
  }

  private static void reads() {
    // isApart(), paste(): "or does not read as just one WORD"
    files();
    for (int piece : new int[] {0, 1, 52, 60, 66, 68, 70, 72, 75, 80, 81, 84, 90, 92, 94}) {
      refused(ARGUMENT, () -> w.isApart(piece, 2), () -> w.isApart(2, piece), () -> w.paste(piece, 2), () -> w.paste(2, piece));
    }
    due("true true false", () -> w.isApart(57, 2) + " " + w.isApart(57, 33) + " " + w.isApart(33, 57));
    due("0 2 -1", () -> w.paste(89, 2) + " " + w.paste(51, 51) + " " + w.paste(86, 86));
    // ofWord(): "0 KIND, 1 1 if it is BLANK, otherwise 0, 2 PLACE, 3 how many signs its spelling has"
    files("", "", "A 017'x;");
    due("0 0 20000 1|1 1 20002 3|2 0 20005 4", () -> all(3, k -> line(4, what -> w.ofWord(2, 0, k, what))));
    // a LINE in the midst of a JOINED one
    files("A\\\n B \\\nC");
    due("3 2 1", () -> line(3, i -> w.words(0, i)));
    due("A B C|B C|C", () -> all(3, i -> w.plain(0, i)));
    due("'A B C'|'B C'|'C'", () -> all(3, i -> w.quoted(0, i)));
    due("A\\| B \\|C", () -> all(3, i -> w.text(0, i)));
    // isDefined(), hides(): "a NAME that is spelled just like it"
    run("#define A B\n#define F(x)A\n#define x F(1)\nx");
    due("true true true false", () -> w.hides(0, 2) + " " + w.hides(0, 6) + " " + w.hides(0, 9) + " " + w.hides(0, 3));
    due("0", () -> {
      int more = 0;
      for (int piece = 0; piece < 96; piece++) {
        boolean name = piece == 2 || piece == 6 || piece == 9;
        more += w.hides(0, piece) == name ? 0 : 1;
        more += w.isDefined(piece) == (name || piece >= 12 && piece <= 14) ? 0 : 1;
      }
      return more;
    });
  }

  private static void ofFiles() {
    // ofFile(): "3 how many WORDS are OUT whose CHAIN begins with a PLACE of this FILE"
    files("#include 1\nA B", "#define A x y\n#once\nB");
    due("2 0 0 0|3 0 0 0", () -> line(4, what -> w.ofFile(0, what)) + "|" + line(4, what -> w.ofFile(1, what)));
    w.run(0);
    due("2 1 0 1|3 1 1 3", () -> line(4, what -> w.ofFile(0, what)) + "|" + line(4, what -> w.ofFile(1, what)));
    w.empty(1);
    w.strike(0, 0);
    due("1 1 0 1|0 1 1 3", () -> line(4, what -> w.ofFile(0, what)) + "|" + line(4, what -> w.ofFile(1, what)));
    due("2 10010 10200", () -> w.ofOut(0, 6) + " " + w.chain(1, 0) + " " + w.chain(0, 0));
    // ofRun(): "(without one all is 0, and 13 NONE)"
    files("A");
    due("0 0 0 0 0 0 0 0 0 0 0 0 0 -1", () -> line(14, what -> w.ofRun(what)));
    // name(): "by the order of spellings": sign by sign by the signs' codes, a beginning ahead of what goes on
    run("#define x\n#define A1\n#define _\n#define A\n#define AA\n#define B\n#define A_\n#define Ax");
    due("A|A1|AA|A_|Ax|B|_|x", () -> all(8, i -> w.name(i)));
    due("A|A1|AA|A_|Ax|B|_|x", () -> all(8, i -> w.unused(i)));
    run("#ifndef x\n#ifndef A1\n#ifndef _\n#ifndef A\n#ifndef AA\n#ifndef B\n#ifndef A_\n#ifndef Ax");
    due("A|A1|AA|A_|Ax|B|_|x", () -> all(8, i -> w.lean(i)));
  }

  /** As many different NAMES and WORDS as FILES can hold: what the document does not bound is kept whole. */
  private static void manyNames() {
    String[] names = new String[64];
    for (int i = 0; i < 64; i++) {
      names[i] = "ABCDFGHx".substring(i / 8, i / 8 + 1) + "ABCDFGHx".substring(i % 8, i % 8 + 1);
    }
    // 8 other NAMES in each RUN
    files();
    for (int i = 0; i < 64; i += 8) {
      w.empty(0);
      for (int k = 0; k < 8; k++) {
        types(0, "#define " + names[i + k] + " " + (k < 7 ? names[i + k + 1] : "1"));
      }
      types(0, names[i]);
      w.run(0);
      due("8 8 1 8", () -> w.ofRun(4) + " " + w.ofOut(0, 4) + " " + w.outWord(0) + " " + w.ofRun(12));
    }
    // 22 NAMES in one RUN
    StringBuilder text = new StringBuilder("#include 1\n#include 2\n#include 3");
    String[] files = {"", "", "", ""};
    int file = 1;
    int lines = 0;
    for (int i = 0; i < 22; i++) {
      String more = (i < 8 ? "" : "#undef " + names[i - 8] + "\n") + "#define " + names[i] + " " + names[i + 1];
      int adds = i < 8 ? 1 : 2;
      if (lines + adds > 10) {
        file++;
        lines = 0;
      }
      if (file < 4) {
        files[file] += (lines > 0 ? "\n" : "") + more;
      } else {
        text.append("\n").append(more);
      }
      lines += adds;
    }
    text.append("\n").append(names[14]);
    files(text.toString(), files[1], files[2], files[3]);
    w.run(0);
    due(names[22] + " 8 8 8 14", () -> w.outLine(0) + " " + w.ofRun(4) + " " + w.ofOut(0, 4) + " " + w.ofRun(3) + " "
        + (w.ofRun(2) + 14));
    // one NAME that is DEFINED again and again
    files(n("#include 1\n", 7) + "#define B 1\n#define A B\nA", n("#define A\n#undef A\n", 4) + "#define A\n#undef A");
    w.run(0);
    due("1 2 true true|", () -> out() + " " + w.ofOut(0, 4) + " " + w.hides(0, 2) + " " + w.hides(0, 3) + "|" + errors());
    // some 500 WORDS of different spellings in one RUN
    String ends = "ABCDFGHxyz0123_7";
    String begins = "ABCDFGHxyz_";
    files();
    for (int i = 0; i < 33; i++) {
      StringBuilder line = new StringBuilder();
      for (int k = 0; k < 16 - i / 11 * 4; k++) {
        line.append(k > 0 ? " " : "").append(begins.charAt(i % 11)).append(n("x", i / 11)).append(ends.charAt(k));
      }
      if (i % 9 == 0 && i < 27) {
        types(i / 9, "#include " + (i / 9 + 1));
      }
      types(Math.min(i / 9, 3), line.toString());
    }
    due(396, () -> w.run(0));
    TreeSet<String> different = new TreeSet<>();
    for (int k = 0; k < w.ofRun(0); k++) {
      different.add(w.outWord(k));
    }
    due("396 A0 zz", () -> different.size() + " " + different.first() + " " + different.last());
    due(digest(0), () -> w.digest());
  }

  /** What digest() is by what the other calls answer. */
  private static long digest(int refused) {
    long d = 5405;
    for (int what = 0; what <= 13; what++) {
      d = d * 31 + w.ofRun(what);
    }
    for (int file = 0; file <= 3; file++) {
      for (int what = 0; what <= 3; what++) {
        d = d * 31 + w.ofFile(file, what);
      }
      for (int line = 0; line < w.ofFile(file, 0); line++) {
        d = d * 31 + w.words(file, line);
        d = d * 31 + w.plain(file, line).length();
      }
    }
    for (int k = 0; k < w.ofRun(0); k++) {
      for (int what = 0; what <= 8; what++) {
        d = d * 31 + w.ofOut(k, what);
      }
      for (int i = 0; i < w.ofOut(k, 3); i++) {
        d = d * 31 + w.chain(k, i);
      }
    }
    for (int k = 0; k < w.ofRun(2); k++) {
      for (int what = 0; what <= 2; what++) {
        d = d * 31 + w.ofError(k, what);
      }
      d = d * 31 + w.errorText(k).length();
    }
    for (int i = 0; i < w.ofRun(4); i++) {
      d = d * 31 + w.name(i).length();
      for (int what = 0; what <= 4; what++) {
        d = d * 31 + w.ofName(i, what);
      }
      d = d * 31 + w.body(i).length();
    }
    for (int i = 0; i < w.ofRun(10); i++) {
      d = d * 31 + w.lean(i).length();
    }
    for (int i = 0; i < w.ofRun(11); i++) {
      d = d * 31 + w.unused(i).length();
    }
    for (int what = 0; what <= 7; what++) {
      d = d * 31 + w.ofDesk(what);
    }
    d = d * 31 + w.desk().length();
    d = d * 31 + refused;
    return d * 31 + (w.isSound() ? 1 : 0);
  }

  private static void house() {
    files();
    due(digest(0), () -> w.digest());
    due("1 2 3", () -> w.knock() + " " + w.knock() + " " + w.knock());
    due(digest(3), () -> w.digest());
    fill(0, "#define A F(B)'it''s'\n#define F(x)#x x+\n#define AA LINE\n#x\n A F(COUNT)\\\nx\n#ifdef AA");
    fill(2, "AA F(F(1)\n");
    due(digest(3), () -> w.digest());
    w.run(0);
    due(digest(3), () -> w.digest());
    w.load(2, 0);
    w.finish();
    due(digest(3), () -> w.digest());
    w.tail(85);
    w.knock();
    due(digest(4), () -> w.digest());
    w.strike(0, 0);
    due(digest(4), () -> w.digest());
    w.run(2);
    due(digest(4) + " true", () -> w.digest() + " " + w.isSound());
    due(5, () -> w.knock());
    // isSound(): with errors, with SPENT, with NESTED, with CUT, without LINES in a FILE
    String[] sound = {"#define F(x)F(x)F\nF(F(F(F(F(F(F(1)))))))", "#define A COUNT A\nA'", "#define F(x)x x x x\nF(1 2 3 1 2 3 1 2)",
        "#define G(x,y)x##y G(\nG(+,)G(,G(1)", COUNTS + "COUNT", "#define A\n'it''s''A", "#define H(x,...)#x MORE\nH(A\n,H(1,2),)"};
    for (String text : sound) {
      run(text);
      due(true, () -> w.isSound());
    }
  }

  private static String quoted(String word, int times, int again) {
    String text = word;
    for (int i = 0; i < again; i++) {
      text = "'" + (text + " ").repeat(times).trim().replace("'", "''") + "'";
    }
    return text;
  }

  private static void longTexts() {
    // no sentence tells a length at which a spelling ends: TEXTS
    String text = quoted("1", 10, 4);
    files("#define F(x) #x\n#define G(x, y) F(" + (n("x ", 10)).trim() + ")\nG(G(G(G(1,),),),)");
    w.run(0);
    due("36841 2 39|true", () -> w.ofOut(0, 7) + " " + w.ofOut(0, 0) + " " + w.ofOut(0, 8) + "|" + w.outWord(0).equals(text));
    due("true true", () -> w.outLine(0).equals(text) + " " + w.would(0, 2).equals(text));
    due(digest(0), () -> w.digest());
    w.load(0, 2);
    w.finish();
    due(true, () -> w.desk().equals(text + "@"));
    w.tail(6);
    due(true, () -> w.desk().equals(text + "@F"));
    for (int i = 0; i < 20; i++) {
      w.cursor(0);
      due(true, () -> w.would(0, 2).equals(text) && w.desk().equals("@" + text + "F"));
    }
    due(digest(0), () -> w.digest());
    // two that are not APART, and one that is QUOTED with others
    files("#define F(x) #x\n#define G(x, y) F(" + (n("x ", 10)).trim() + ")\n#define H(x,...)F(MORE;x)x x\nH(G(G(G(1,),),),A)");
    w.run(0);
    String three = quoted("1", 10, 3);
    due(true, () -> w.outLine(0).equals("'A;" + three.replace("'", "''") + "'" + " " + three + " " + three));
    // NAMES, NUMBERS and TEXTS that are PASTED together
    String pastes = "#define F(x)x##x##x##x##x##x##x##x##x\n#define G(x)F(x)\n#define C(x)D(x,;)\n#define D(x,y)x##y\n";
    String[] words = {"A", "12", "'x'"};
    for (int kind = 0; kind < 3; kind++) {
      String word = words[kind].repeat(6561);
      String want = kind + " " + word.length() + "|true";
      run(pastes + "G(G(G(G(" + words[kind] + "))))");
      due(want, () -> w.ofOut(0, 0) + " " + w.ofOut(0, 7) + "|" + w.outWord(0).equals(word));
      run(pastes + "C(G(G(G(G(" + words[kind] + ")))))");
      due("14|true|true", () -> w.ofError(0, 0) + "|" + w.errorText(0).equals(word + ";") + "|" + w.outLine(0).equals(word + ";"));
      due(digest(0), () -> w.digest());
    }
    run(pastes + lines("G(G(G(G(G(A)))))G(G(G(G(G(x)))))G(G(G(G(G(G(y))))))"));
    due("true true true", () -> w.outWord(0).equals(n("A", 59049)) + " " + w.outWord(1).equals(n("x", 59049)) + " "
        + w.outWord(2).equals(n("y", 531441)));
    due(digest(0), () -> w.digest());
    run(pastes + "#define H(x)#x\n#define B(x)H(x)\nB(G(G(G(G('x')))))");
    due("32807 true", () -> w.ofOut(0, 7) + " " + w.outWord(0).equals("'" + n("''x''", 6561) + "'"));
    // one in the other: the innermost "'" is typed 2 to the power of 18 times
    run("#define F(x)#x\n#define A(x)B(F(x))\n#define B(x)C(F(x))\n#define C(x)D(F(x))\n#define D(x)G(F(x))\n"
        + "#define G(x)H(F(x))\n#define H(x)F(x)\nA(A(A(1)))");
    due("true", () -> w.outWord(0).equals(quoted("1", 1, 18)));
    due("1|", () -> run(pastes + "#if !G(G(G(G(0))))\n1\n#endif") + "|" + errors());
    due("8 6561", () -> {
      run(pastes + "#if G(G(G(G(1))))\n#endif");
      return w.ofError(0, 0) + " " + w.errorText(0).length();
    });
    due("8 6561", () -> {
      run(pastes + "#include G(G(G(G(7))))");
      return w.ofError(0, 0) + " " + w.errorText(0).length();
    });
    // more than an int can count: what can still be told of it
    run("#define F(x)#x\n#define A(x)B(F(x x x x x x x x x))\n#define B(x)C(F(x x x x x x x x x))\n"
        + "#define C(x)D(F(x x x x x x x x x))\n#define D(x)G(F(x x x x x x x x x))\n#define G(x)H(F(x x x x x x x x x))\n"
        + "#define H(x)F(x x x x x x x x x)\nA(A(A(1)))");
    due("1 2 39 2147483647 true", () -> w.ofRun(0) + " " + w.ofOut(0, 0) + " " + w.ofOut(0, 8) + " " + w.ofOut(0, 7) + " "
        + w.isSound());
    // no String holds it; what is returned then is free, but the calls end
    w.load(0, 7);
    w.finish();
    due("true", () -> w.outWord(0).startsWith("'") && w.outLine(0).startsWith("'") && w.desk().startsWith("'")
        && w.would(0, 7).startsWith("'"));
    due("'1 1 1'|'1 1 1'@", () -> {
      w.empty(0);
      fill(0, "#define F(x)#x\nF(1 1 1)");
      w.run(0);
      w.load(0, 1);
      w.finish();
      return w.outWord(0) + "|" + w.desk();
    });
    longReturned();
  }

  private static boolean isMany(char c, int many, String text, String ahead, String behind) {
    boolean good = text.length() == ahead.length() + many + behind.length() && text.startsWith(ahead) && text.endsWith(behind);
    for (int i = 0; i < many && good; i++) {
      good = text.charAt(ahead.length() + i) == c;
    }
    return good;
  }

  private static void longReturned() {
    // all that is told of a spelling or of a TEXT OUT, however long
    int many = 43046721;
    files("#define F(x)x##x##x##x##x##x##x##x##x\n#define G(x)F(x)\n#define C(x)D(G(G(G(G(x)))))\n#define D(x)G(G(G(G(x))))\n"
        + "#define H(x)x##;\n#define A(x)H(x)\nC(1)\n#if A(C(1))\n#endif");
    w.run(0);
    due("1 " + many, () -> w.ofOut(0, 0) + " " + w.ofOut(0, 7));
    due(true, () -> isMany('1', many, w.outWord(0), "", ""));
    due(true, () -> isMany('1', many, w.outLine(0), "", ""));
    due(true, () -> isMany('1', many, w.errorText(0), "", ";"));
    due("14 8", () -> w.ofError(0, 0) + " " + w.ofError(1, 0));
    due(true, () -> isMany('1', many, w.errorText(1), "", ""));
    due(true, () -> isMany('1', many, w.would(0, 6), "", ""));
    w.load(0, 6);
    w.put(9);
    w.finish();
    w.tail(51);
    due(true, () -> isMany('1', many, w.desk(), "x ", "@''"));
  }

  public static void main(String[] args) {
    typing();
    joining();
    reading();
    texts();
    defining();
    looks();
    running();
    conditions();
    desks();
    promises();
    if (wrong > 0) {
      System.out.println(wrong + " wrong");
      System.exit(1);
    }
  }
}
