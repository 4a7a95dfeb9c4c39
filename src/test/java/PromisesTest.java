/** For each promise of the document: ordinary inputs, the edges that it names, and wrong inputs. */
public final class PromisesTest {
  interface Asked {
    Object ask();
  }

  private static int wrong = 0;
  private static int promise = 0;
  private static Wordbefore w;

  private static final String INDEX = "IndexOutOfBoundsException";
  private static final String ARGUMENT = "IllegalArgumentException";
  private static final String STATE = "IllegalStateException";

  private static String answer(Asked asked) {
    try {
      return String.valueOf(asked.ask());
    } catch (RuntimeException e) {
      return e.getClass().getSimpleName();
    }
  }

  private static void due(Object want, Asked asked) {
    String got = answer(asked);
    if (!got.equals(String.valueOf(want))) {
      wrong++;
      StackTraceElement at = Thread.currentThread().getStackTrace()[2];
      System.out.println("promise " + promise + ", line " + at.getLineNumber() + ": answered " + got + ", due is " + want);
    }
  }

  private static void begin(int number) {
    promise = number;
    w = new Wordbefore();
  }

  /** Types a LINE of any number of PIECES. */
  private static void type(int file, int... p) {
    int[] all = java.util.Arrays.copyOf(p, (p.length + 4) / 5 * 5 + (p.length == 0 ? 5 : 0));
    for (int i = 0; i < all.length; i += 5) {
      if (i == 0) {
        w.line(file, all[0], all[1], all[2], all[3], all[4]);
      } else {
        w.more(file, all[i], all[i + 1], all[i + 2], all[i + 3], all[i + 4]);
      }
    }
  }

  /** Types a LINE of a FILE from words that are PIECES, with one blank where a blank is. */
  private static void types(int file, String text) {
    java.util.List<Integer> list = new java.util.ArrayList<>();
    int at = 0;
    while (at < text.length()) {
      int best = 0;
      int length = 0;
      for (int piece = 0; piece < 96; piece++) {
        String s = w.piece(piece);
        if (s.length() > length && text.startsWith(s, at)) {
          best = piece;
          length = s.length();
        }
      }
      if (length == 0) {
        throw new IllegalArgumentException(text);
      }
      list.add(best);
      at += length;
    }
    type(file, list.stream().mapToInt(i -> i).toArray());
  }

  private static void file(int file, String... lines) {
    w.empty(file);
    for (String line : lines) {
      types(file, line);
    }
  }

  /** All that is OUT, LINE by LINE. */
  private static String out(String... lines) {
    file(0, lines);
    w.run(0);
    return outLines();
  }

  private static String outLines() {
    StringBuilder b = new StringBuilder();
    for (int i = 0; i < w.ofRun(1); i++) {
      b.append(i > 0 ? "|" : "").append(w.outLine(i));
    }
    return b.toString();
  }

  /** The errors of the last RUN: KIND, FILE and LINE of TOLD, and text. */
  private static String errors() {
    StringBuilder b = new StringBuilder();
    for (int i = 0; i < w.ofRun(2); i++) {
      b.append(i > 0 ? "|" : "").append(w.ofError(i, 0)).append('@').append(w.ofError(i, 1)).append('.')
          .append(w.ofError(i, 2)).append(' ').append(w.errorText(i));
    }
    return b.toString();
  }

  // ---- typing

  private static void typing() {
    begin(1);
    for (int file = 0; file < 4; file++) {
      int f = file;
      due(0, () -> w.ofFile(f, 0));
    }

    begin(2);
    due(1, () -> w.line(0, 85, 0, 0, 0, 0));
    due("A B C", () -> w.text(0, 0));
    due(2, () -> w.line(0, 2, 3, 4, 5, 6));
    due("ABCDF", () -> w.text(0, 1));
    due(INDEX, () -> w.line(-1, 96, 0, 0, 0, 0));
    due(INDEX, () -> w.line(4, 0, 0, 0, 0, 0));
    due(ARGUMENT, () -> w.line(0, -1, 0, 0, 0, 0));
    due(ARGUMENT, () -> w.line(0, 0, 0, 0, 0, 96));
    due(ARGUMENT, () -> w.line(0, 26, 26, 26, 26, 26));
    due(3, () -> w.line(0, 26, 26, 26, 26, 60));
    due(48, () -> w.text(0, 2).length());
    for (int i = 3; i < 10; i++) {
      due(i + 1, () -> w.line(0, 0, 0, 0, 0, 0));
    }
    due(STATE, () -> w.line(0, 0, 0, 0, 0, 0));
    due(ARGUMENT, () -> w.line(0, 96, 0, 0, 0, 0));
    due(ARGUMENT, () -> w.line(0, 26, 26, 26, 26, 26));
    due(1, () -> w.line(3, 0, 0, 0, 0, 0));

    begin(3);
    due(STATE, () -> w.more(0, 0, 0, 0, 0, 0));
    due(ARGUMENT, () -> w.more(0, 0, 0, 96, 0, 0));
    due(INDEX, () -> w.more(4, 96, 0, 0, 0, 0));
    w.line(0, 2, 0, 0, 0, 0);
    w.line(0, 3, 0, 0, 0, 0);
    due(6, () -> w.more(0, 85, 0, 0, 0, 0));
    due("BA B C", () -> w.text(0, 1));
    due("A", () -> w.text(0, 0));
    due(46, () -> w.more(0, 26, 26, 26, 26, 0));
    due(STATE, () -> w.more(0, 2, 2, 2, 0, 0));
    due(48, () -> w.more(0, 2, 2, 0, 0, 0));
    due(48, () -> w.more(0, 0, 0, 0, 0, 0));
    due(STATE, () -> w.more(0, 2, 0, 0, 0, 0));

    begin(4);
    file(1, "A", "A B C", "");
    due(INDEX, () -> w.strike(1, 3));
    due(INDEX, () -> w.strike(1, -1));
    due(INDEX, () -> w.strike(4, 0));
    due(1, () -> w.strike(1, 0));
    due("A B C", () -> w.text(1, 0));
    due(0, () -> w.strike(1, 1));
    due(5, () -> w.strike(1, 0));
    due(INDEX, () -> w.strike(1, 0));

    begin(5);
    file(2, "A", "B");
    due(2, () -> w.empty(2));
    due(0, () -> w.empty(2));
    due(0, () -> w.ofFile(2, 0));
    due(INDEX, () -> w.empty(-1));
    due(INDEX, () -> w.empty(4));
  }

  // ---- reading

  private static final String PIECES =
      "| |A|B|C|D|F|G|H|x|y|z|LINE|FILE|COUNT|MORE|defined|0|1|2|3|7|12|017|0x1F|0b101|9999999999|0x|(|)|,|.|...|#|##|+"
      + "|-|*|/|%|<|>|=|!|&|PIPE|^|~|?|:|;|'|[|]|\\|_|'it''s'| ## |<<|>=|#define |#undef |#if |#ifdef |#ifndef |#elif "
      + "|#else|#endif|#include |#once|#line |#error |F(x) |G(x, y) |H(x, ...) |F(A)|G(A, B)|G(F(1), A)|F(F(2))"
      + "|H(1, 2, 3)|x ## y|#x|x + y|(x)|x MORE|A B C| == | && | PIPEPIPE |defined |F(|A, B)|F A|#MORE|y x|G(y, x)|";

  private static void reading() {
    begin(6);
    StringBuilder b = new StringBuilder();
    for (int i = 0; i < 96; i++) {
      b.append(w.piece(i).replace("|", "PIPE")).append('|');
    }
    due(PIECES, () -> b.toString());
    due(ARGUMENT, () -> w.piece(-1));
    due(ARGUMENT, () -> w.piece(96));

    begin(7);
    due(false, () -> w.isApart(2, 3));
    due(true, () -> w.isApart(2, 28));
    due(false, () -> w.isApart(2, 17));
    due(false, () -> w.isApart(17, 2));
    due(false, () -> w.isApart(51, 56));
    due(true, () -> w.isApart(2, 56));
    due(false, () -> w.isApart(31, 31));
    due(false, () -> w.isApart(33, 34));
    due(false, () -> w.isApart(40, 58));
    due(true, () -> w.isApart(59, 42));
    due(true, () -> w.isApart(37, 37));
    due(false, () -> w.isApart(44, 44));
    due(false, () -> w.isApart(43, 86));
    due(true, () -> w.isApart(32, 31));
    due(true, () -> w.isApart(53, 54));
    due(true, () -> w.isApart(58, 40));
    due(ARGUMENT, () -> w.isApart(0, 2));
    due(ARGUMENT, () -> w.isApart(2, 85));
    due(ARGUMENT, () -> w.isApart(2, 52));
    due(ARGUMENT, () -> w.isApart(96, 2));
    due(ARGUMENT, () -> w.isApart(2, -1));

    begin(8);
    due(0, () -> w.paste(2, 3));
    due(0, () -> w.paste(2, 18));
    due(1, () -> w.paste(18, 2));
    due(1, () -> w.paste(17, 9));
    due(2, () -> w.paste(51, 56));
    due(3, () -> w.paste(33, 33));
    due(3, () -> w.paste(40, 42));
    due(-1, () -> w.paste(31, 32));
    due(-1, () -> w.paste(57, 56));
    due(-1, () -> w.paste(2, 28));
    due(-1, () -> w.paste(2, 56));
    due(-1, () -> w.paste(28, 29));
    due(-1, () -> w.paste(42, 40));
    due(0, () -> w.paste(55, 18));
    due(0, () -> w.paste(89, 2));
    due(ARGUMENT, () -> w.paste(1, 2));
    due(ARGUMENT, () -> w.paste(2, 75));
    due(ARGUMENT, () -> w.paste(2, 96));

    begin(9);
    file(0, "#define F(x) x + y", "");
    due("#define F(x) x + y", () -> w.text(0, 0));
    due("", () -> w.text(0, 1));
    due(INDEX, () -> w.text(0, 2));
    due(INDEX, () -> w.text(0, -1));
    due(INDEX, () -> w.text(4, 0));
    words();
  }

  private static void words() {
    begin(10);
    file(0, "", " [A] ", "A[B]C", "A\\", "B\\", "C", "\\\\", "x", "A\\");
    due(0, () -> w.words(0, 0));
    due(0, () -> w.words(0, 1));
    due(2, () -> w.words(0, 2));
    due(1, () -> w.words(0, 3));
    due(1, () -> w.words(0, 4));
    due(2, () -> w.words(0, 6));
    due(1, () -> w.words(0, 8));
    due(INDEX, () -> w.words(0, 9));
    due(INDEX, () -> w.words(-1, 0));

    begin(11);
    file(0, "A\\", "B'x", "'it''s''", "... ...##+", "<<=>=>>", "&&&|||", "017_x", "[(] A", ".....", "]\\x");
    due(INDEX, () -> w.word(0, 0, 2));
    due("AB", () -> w.word(0, 0, 0));
    due("'x'", () -> w.word(0, 0, 1));
    due("'it''s'''", () -> w.word(0, 2, 0));
    due("...", () -> w.word(0, 3, 1));
    due("##", () -> w.word(0, 3, 2));
    due("<<", () -> w.word(0, 4, 0));
    due("=", () -> w.word(0, 4, 1));
    due(">=", () -> w.word(0, 4, 2));
    due(">>", () -> w.word(0, 4, 3));
    due("&", () -> w.word(0, 5, 1));
    due("|", () -> w.word(0, 5, 3));
    due("017_x", () -> w.word(0, 6, 0));
    due("A", () -> w.word(0, 7, 0));
    due("..", () -> w.word(0, 8, 1));
    due("]", () -> w.word(0, 9, 0));
    due("\\", () -> w.word(0, 9, 1));
    due(INDEX, () -> w.word(0, 9, 3));
    due(INDEX, () -> w.word(0, 9, -1));
    due(INDEX, () -> w.word(0, 10, 0));
    due(INDEX, () -> w.word(4, 0, 0));

    begin(12);
    file(2, " A\\", " B [x]C(", "'it''s'", "0x1F;");
    due(0, () -> w.ofWord(2, 0, 0, 0));
    due(1, () -> w.ofWord(2, 0, 0, 1));
    due(20001, () -> w.ofWord(2, 0, 0, 2));
    due(20101, () -> w.ofWord(2, 0, 1, 2));
    due(1, () -> w.ofWord(2, 0, 2, 1));
    due(20106, () -> w.ofWord(2, 0, 2, 2));
    due(0, () -> w.ofWord(2, 0, 3, 1));
    due(3, () -> w.ofWord(2, 0, 3, 0));
    due(2, () -> w.ofWord(2, 2, 0, 0));
    due(7, () -> w.ofWord(2, 2, 0, 3));
    due(1, () -> w.ofWord(2, 3, 0, 0));
    due(4, () -> w.ofWord(2, 3, 0, 3));
    due(ARGUMENT, () -> w.ofWord(2, 0, 0, 4));
    due(ARGUMENT, () -> w.ofWord(2, 0, 0, -1));
    due(INDEX, () -> w.ofWord(2, 0, 4, 4));
    due(INDEX, () -> w.ofWord(2, 4, 0, 0));
    due(INDEX, () -> w.ofWord(-1, 0, 0, 0));

    begin(13);
    file(0, "0 12 017 0x1F 0b101 9999999999 0x 0b1012 0", "01B A 07 0_ ;", "0x7FFFFFFF");
    String[] values = {"0", "12", "15", "31", "5", STATE, STATE, STATE, "0"};
    for (int i = 0; i < values.length; i++) {
      int k = i;
      due(values[i], () -> w.number(0, 0, k));
    }
    due(STATE, () -> w.number(0, 1, 0));
    due(STATE, () -> w.number(0, 1, 1));
    due(7, () -> w.number(0, 1, 2));
    due(STATE, () -> w.number(0, 1, 3));
    due(STATE, () -> w.number(0, 1, 4));
    due(2147483647, () -> w.number(0, 2, 0));
    due(INDEX, () -> w.number(0, 0, 9));
    due(INDEX, () -> w.number(0, 3, 0));
    due(INDEX, () -> w.number(4, 0, 0));

    begin(14);
    file(0, " A  B [x] (C )", "+ + +", "'x' 'y'", "A 'x' 12");
    due("A B(C)", () -> w.plain(0, 0));
    due("+ + +", () -> w.plain(0, 1));
    due("'x' 'y'", () -> w.plain(0, 2));
    due("A'x'12", () -> w.plain(0, 3));
    due(INDEX, () -> w.plain(0, 4));
    due(INDEX, () -> w.plain(4, 0));

    begin(15);
    file(0, " A  B[x](C )", "'it''s'", "", "A(B)");
    due("'A B (C )'", () -> w.quoted(0, 0));
    due("'''it''''s'''", () -> w.quoted(0, 1));
    due("''", () -> w.quoted(0, 2));
    due("'A(B)'", () -> w.quoted(0, 3));
    due(INDEX, () -> w.quoted(0, 4));
    due(INDEX, () -> w.quoted(-1, 0));

    begin(16);
    file(0, " A  B[x](C )", "'it''s''", "");
    due("A", () -> w.again(0, 0, 0));
    due("(", () -> w.again(0, 0, 2));
    due(INDEX, () -> w.again(0, 0, 5));
    due("'it''s'''", () -> w.again(0, 1, 0));
    due(INDEX, () -> w.again(0, 1, 1));
    due(INDEX, () -> w.again(0, 2, 0));
    due(INDEX, () -> w.again(0, 2, -1));
    due(INDEX, () -> w.again(0, 3, 0));
    due(INDEX, () -> w.again(4, 0, 0));
  }

  // ---- running

  private static void names() {
    begin(17);
    file(0, "#define A 3", "A;");
    due(2, () -> w.run(0));
    due("3;", () -> w.outLine(0));
    due(INDEX, () -> w.run(4));
    due(INDEX, () -> w.run(-1));
    due(0, () -> w.run(3));
    // a "(" that is BLANK gives no PARAMETERS
    due("(x)x(A)", () -> out("#define F (x) x", "F(A)"));
    due("A(B)", () -> out("#define F(x) x(B)", "F(A)"));
    due("|", () -> out("#define F() |", "F()"));
    // what is no good ORDER
    String[] bad = {"#define ", "#define LINE 1", "#define MORE", "#define defined", "#define 1", "#define F(x",
        "#define F(x,) x", "#define F(x, x) x", "#define F(LINE) x", "#define F(..., x)", "#define F(x y)",
        "#define F(A,B,C,D,x)", "#define A ##x", "#define A x##", "#define A x####y", "#define F() #", "#define F(x) #y",
        "#define F(1)", "#define H(x...) x", "#undef ", "#undef A B", "#undef 1", "#undef LINE", "#x", "# 1"};
    for (String line : bad) {
      out(line);
      due("1@0.0 " + w.plain(0, 0), () -> errors());
    }
    String[] good = {"#define A", "#define A #", "#define A #x##y", "#define F(A,B,C,D,...) #MORE", "#define F()",
        "#define F(...) MORE", "#define A MORE", "#undef A", "#"};
    for (String line : good) {
      due("", () -> out(line) + errors());
    }
    due("", () -> {
      out("#define A 1 1 1 1 1 1 1 1 1 1\\", " 1 1 1 1 1 1 1 1 1 1");
      return errors();
    });
    due("1@0.0 #define A 1 1 1 1 1 1 1 1 1 1 1 1 1 1 1 1 1 1 1 1 1", () -> {
      out("#define A 1 1 1 1 1 1 1 1 1 1\\", " 1 1 1 1 1 1 1 1 1 1 1");
      return errors();
    });
    // ALIKE or DIFFERENT
    due("", () -> out("#define A x + y", "#define A   x + [z]y") + errors());
    due("2@0.1 A", () -> out("#define A x + y", "#define A x +y") + errors());
    due("2@0.1 A", () -> out("#define A x", "#define A y") + errors());
    due("2@0.1 F", () -> out("#define F(x) x", "#define F(y) x") + errors());
    due("2@0.1 F", () -> out("#define F()", "#define F") + errors());
    due("2@0.1 F", () -> out("#define F(x)", "#define F(x, ...)") + errors());
    due("x", () -> out("#define A x", "#define A y", "A"));
    due("y", () -> out("#define A x", "#undef A", "#define A y", "A") + errors());
    // FULL
    file(1, "#define A", "#define B", "#define C", "#define D", "#define F", "#define G", "#define H", "#define x");
    due("A y 7", () -> out("#include 1", "#define y", "#define A", "#undef A", "#define z 7", "A y z"));
    due("3@0.1 y", () -> errors());
    due(8, () -> w.ofRun(4));
  }

  private static void expanding() {
    begin(17);
    due("1+y", () -> out("#define F(x) x + y", "F(1)"));
    due("F", () -> out("#define F(x) x + y", "F"));
    due("F|(1)", () -> out("#define F(x) x", "F", "#", "(1)"));
    due("1", () -> out("#define F(x) x", "F", "(1", ")"));
    due("A B", () -> out("#define A A B", "A"));
    due("A", () -> out("#define A B", "#define B A", "A"));
    due("1 1", () -> out("#define F(x) x", "F(LINE) LINE"));
    due("0 1 2", () -> out("COUNT COUNT COUNT"));
    due("0.1", () -> out("#", "FILE.LINE"));
    // a TEXT of the argument AS TYPED
    due("'A'", () -> out("#define A 7", "#define F(x) #x", "F(A)"));
    due("'A B'", () -> out("#define F(x) #x", "F( A", "B )"));
    due("'''it''''s'''", () -> out("#define F(x) #x", "F('it''s')"));
    due("''", () -> out("#define F(x) #x", "F()"));
    due("'1, 2'", () -> out("#define H(...) #MORE", "H(1, 2)"));
    // PASTED AS TYPED
    due("AB", () -> out("#define A 7", "#define G(x, y) x ## y", "G(A, B)"));
    due("7", () -> out("#define AB 7", "#define G(x, y) x ## y", "G(A, B)"));
    due("A", () -> out("#define G(x, y) x ## y", "G(A, )"));
    due("B", () -> out("#define G(x, y) x ## y", "G(, B)"));
    due("", () -> out("#define G(x, y) x ## y", "G(,)") + errors());
    due("1 23 7", () -> out("#define G(x, y) x ## y", "G(1 2, 3 7)"));
    due("+A14@0.1 +A", () -> out("#define G(x, y) x ## y", "G(+, A)") + errors());
    due("++1", () -> out("#define G(x, y) x ## + ## y", "G(+, 1)"));
    due("'A''B'", () -> out("#define G(x, y) #x ## #y", "G(A, B)"));
    due("xy", () -> out("#define A x ## y", "A"));
    due("12", () -> out("#define G(x, y) z ## x ## y", "#define z12 12", "G(1, 2)"));
    // MORE
    due("1 2,3", () -> out("#define H(x, ...) x MORE", "H(1, 2, 3)"));
    due("1", () -> out("#define H(x, ...) x MORE", "H(1)") + errors());
    due("", () -> out("#define H(x, ...) x MORE", "H()") + errors());
    due("1,2", () -> out("#define H(...) MORE", "H(1, 2)"));
    // errors
    due("G(1)10@0.1 G", () -> out("#define G(x, y) x y", "G(1)") + errors());
    due("G(1,2,3)10@0.1 G", () -> out("#define G(x, y) x y", "G(1,2,3)") + errors());
    due("G((1,2),3)", () -> out("#define G(x, y) G(x, y)", "G((1,2),3)") + errors());
    due("F(1)10@0.1 F", () -> out("#define F() A", "F(1)") + errors());
    due("F(19@0.1 F", () -> out("#define F(x) x", "F(1") + errors());
    due("1", () -> out("#define F(x) x", "F(F(F(F(F(F(1))))))") + errors());
    due("F(1)11@0.1 F", () -> out("#define F(x) x", "F(F(F(F(F(F(F(1)))))))") + errors());
    more();
  }

  private static void more() {
    // of 32 WORDS 30 come in
    due("12@0.3 F", () -> {
      out("#define A B B B B B B B B", "#define B x", "#define F(x) x x x x", "F(A)");
      return errors();
    });
    due(30, () -> w.ofRun(0));
    due("1 1 1 1 1 1 1 1 1 1 1 1 1 1 1 1 1 1 1 1 1 1 1 1 1 1 1 1 1 1", () -> out("#define F(x) x x x x x x x x x x",
        "F(1 1 1)") + errors());
    // 80 STEPS, and one error
    due("13@0.1 COUNT", () -> {
      out("#define A COUNT COUNT COUNT COUNT COUNT", "A A A A A A A A A A A A A A A A A A A A");
      return errors();
    });
    due("80 66", () -> w.ofRun(3) + " " + w.ofRun(7));
    // what takes the place of nothing
    due("1|2", () -> out("#define A", "1", "A 2"));
    due(1, () -> w.ofOut(1, 2));
    // the conditions of LINES that are TAKEN
    due("1|7", () -> out("#if 1", "1", "#else", "2", "#endif", "#if 0", "3", "#else", "7", "#endif"));
    due("2", () -> out("#if 0", "1", "#elif 1", "2", "#elif 1", "3", "#else", "7", "#endif"));
    due("", () -> out("#if 0", "#if 1", "1", "#else", "2", "#endif", "#endif"));
    due("1", () -> out("#define A", "#ifdef A", "1", "#endif", "#ifndef A", "2", "#endif"));
    due("1", () -> out("#ifdef LINE", "1", "#endif"));
    due("1@0.0 #ifdef 1", () -> out("#ifdef 1", "1", "#endif") + errors());
    due("1@0.0 #ifdef A B", () -> out("#ifdef A B", "1", "#endif") + errors());
    due("4@0.0 #else|4@0.1 #endif|4@0.2 #elif 1", () -> out("#else", "#endif", "#elif 1") + errors());
    due("4@0.2 #else|4@0.3 #elif 1", () -> out("#if 1", "#else", "#else", "#elif 1", "#endif") + errors());
    due("5@0.1 #ifdef A|5@0.0 #if 1", () -> out("#if 1", "#ifdef A") + errors());
    due("7@0.0 #if", () -> out("#if ", "1", "#endif") + errors());
    due("7@0.0 #if defined 1", () -> out("#if defined 1", "1", "#endif") + errors());
    due("8@0.0 9999999999", () -> out("#if 9999999999", "1", "#endif") + errors());
    due("7@0.0 #if 1 2 0x|7@0.2 #if 1!0x|8@0.4 0x", () -> out("#if 1 2 0x", "#endif", "#if 1!0x", "#endif",
        "#if 0x 1 2 )", "#endif") + errors());
    due("7@0.0 #if 1/0", () -> out("#if 1/0", "1", "#endif") + errors());
    due("", () -> out("#if 0", "#x", "#define ", "#endif") + errors());
    due("0@0.0 A+B", () -> out("#error  A + B") + errors());
    // include, once, line
    file(1, "#once", "FILE");
    due("1|0", () -> out("#include 1", "#include 1", "FILE"));
    due("1 2", () -> {
      out("#if 0", "#if 1", "#elif A(", "1", "#else", "2", "#endif", "#endif", "#elif 1");
      return w.ofRun(8) + " " + (w.ofRun(9));
    });
    due("1@0.0 #include 7|1@0.1 #include|8@0.2 0x|1@0.3 #include A", () -> out("#include 7", "#include ",
        "#include 0x", "#include A") + errors());
    file(1, "#include 1");
    due("6@1.0 #include 1", () -> out("#include 1") + errors());
    file(1, "");
    due("6@0.7 #include 1", () -> out("#include 1", "#include 1", "#include 1", "#include 1", "#include 1",
        "#include 1", "#include 1", "#include 1") + errors());
    due("12.0|13.0|7.3|8.3", () -> out("#line 12", "LINE.FILE", "LINE.FILE", "#line 7 3", "LINE.FILE", "LINE.FILE"));
    due("1@0.0 #line A|1@0.1 #line 1 2 3|8@0.2 0x|1@0.3 #line 1 0x1FF", () -> out("#line A", "#line 1 2 3",
        "#line 0x", "#line 1 0x1FF") + errors());
    due("1@0.0 #line 0x1FFFF|1@0.1 #line", () -> out("#line 0x1FFFF", "#line ") + errors());
    due("12.0|2.1|14.0", () -> {
      file(1, "#line 2", "LINE.FILE");
      return out("#line 12", "LINE.FILE", "#include 1", "LINE.FILE");
    });
    // an argument goes over LINES, but not over an ORDER
    due("F(|1)9@0.1 F", () -> out("#define F(x) x", "F(", "#", "1)") + errors());
  }

  private static void ofRuns() {
    begin(18);
    for (int what = 0; what <= 12; what++) {
      int k = what;
      due(0, () -> w.ofRun(k));
    }
    due(-1, () -> w.ofRun(13));
    due(ARGUMENT, () -> w.ofRun(14));
    due(ARGUMENT, () -> w.ofRun(-1));
    file(1, "COUNT", "#define B", "#x");
    file(0, "#define A B", "#include 1", "#if defined C", "x", "#define ", "", "#endif", "A A y", "#ifdef G");
    int[] totals = {2, 2, 2, 5, 2, 2, 1, 1, 2, 2, 5, 0, 0, 0};
    w.run(0);
    for (int what = 0; what <= 13; what++) {
      int k = what;
      due(totals[k], () -> w.ofRun(k));
    }
    file(2, "#define A B", "#define B x", "A");
    w.run(2);
    due(2, () -> w.ofRun(12));
    due(2, () -> w.ofRun(13));

    begin(19);
    due(0, () -> w.ofFile(0, 1));
    file(0, "#include 1", "#include 1", "x", "#define A 7", "A", "#if 0", "#once", "#endif");
    file(1, "y", "#if LINE", "#once", "#endif");
    file(2, "A");
    w.run(0);
    due("8 1 0 2", () -> w.ofFile(0, 0) + " " + w.ofFile(0, 1) + " " + w.ofFile(0, 2) + " " + w.ofFile(0, 3));
    due("4 1 1 1", () -> w.ofFile(1, 0) + " " + w.ofFile(1, 1) + " " + w.ofFile(1, 2) + " " + w.ofFile(1, 3));
    due("1 0 0 0", () -> w.ofFile(2, 0) + " " + w.ofFile(2, 1) + " " + w.ofFile(2, 2) + " " + w.ofFile(2, 3));
    due(INDEX, () -> w.ofFile(4, 4));
    due(INDEX, () -> w.ofFile(-1, 0));
    due(ARGUMENT, () -> w.ofFile(0, 4));
    due(ARGUMENT, () -> w.ofFile(0, -1));

    begin(20);
    due(INDEX, () -> w.outWord(0));
    file(0, "#define F(x) #x", "F(A B) y");
    w.run(0);
    due("'A B'", () -> w.outWord(0));
    due("y", () -> w.outWord(1));
    due(INDEX, () -> w.outWord(2));
    due(INDEX, () -> w.outWord(-1));

    begin(21);
    file(0, "#line 7 2", " A[]\\", "'x' 12;");
    w.run(0);
    due("0 1 1 1 0 2 7 1 65", () -> ofOut(0));
    due("2 1 0 1 0 2 7 3 39", () -> ofOut(1));
    due("1 1 0 1 0 2 7 2 49", () -> ofOut(2));
    due("3 0 0 1 0 2 7 1 59", () -> ofOut(3));
    due(ARGUMENT, () -> w.ofOut(0, 9));
    due(ARGUMENT, () -> w.ofOut(0, -1));
    due(INDEX, () -> w.ofOut(4, 9));
    due(INDEX, () -> w.ofOut(-1, 0));
    file(0, "#define F(x) x y", "#define A F(", " A\\", " B)");
    w.run(0);
    due("0 1 1 3 2 0 2 1 66", () -> ofOut(0));
    file(0, "#define F(x) y x", "#define A F(z)", "; A", "F( x)");
    w.run(0);
    due("0 1 0 3 2 0 2 1 121", () -> ofOut(1));
    due("0 1 0 4 2 0 2 1 122", () -> ofOut(2));
    due("0 0 1 2 1 0 3 1 121", () -> ofOut(3));
    due("0 1 0 2 1 0 3 1 120", () -> ofOut(4));

    begin(22);
    due(INDEX, () -> w.outLine(0));
    due("1|2+ +3", () -> out("1", "", "2 + + 3"));
    due(INDEX, () -> w.outLine(2));
    due(INDEX, () -> w.outLine(-1));
    due("1 2|3", () -> out("#define F(x) x", "F(1", "2)", "3"));
  }

  private static String ofOut(int k) {
    StringBuilder b = new StringBuilder();
    for (int what = 0; what <= 8; what++) {
      b.append(what > 0 ? " " : "").append(w.ofOut(k, what));
    }
    return b.toString();
  }

  private static void asks() {
    begin(23);
    due(INDEX, () -> w.chain(0, 0));
    file(0, "#define F(x) (x)", "#define A F(B)", " A");
    w.run(0);
    due("13 110 201", () -> w.chain(0, 0) + " " + w.chain(0, 1) + " " + w.chain(0, 2));
    due("112 201 110 201", () -> w.chain(1, 0) + " " + w.chain(1, 1) + " " + w.chain(1, 2) + " " + w.chain(1, 3));
    due(INDEX, () -> w.chain(0, 3));
    due(INDEX, () -> w.chain(0, -1));
    due(INDEX, () -> w.chain(3, 0));
    due(INDEX, () -> w.chain(-1, 0));
    file(0, "#define A B", "#define B C", "#define C D", "#define D F", "#define F G", "#define G H", "#define H x",
        "#define x y", "A");
    w.run(0);
    due(8, () -> w.ofOut(0, 3));
    file(1, "#define G(x, y) x ## y", "#define F(x) G(1, x)", "#define A B", "F(A)", "G(1,)", "G(,1)");
    w.run(1);
    due("1B 3 1 1", () -> w.outWord(0) + " " + w.ofOut(0, 4) + " " + w.ofOut(1, 4) + " " + w.ofOut(2, 4));
    w.run(0);
    due("710 10", () -> w.chain(0, 0) + " " + w.chain(0, 7));

    begin(24);
    due(INDEX, () -> w.hides(0, 96));
    file(0, "#define A B", "#define B C", "A x");
    w.run(0);
    due(true, () -> w.hides(0, 2));
    due(true, () -> w.hides(0, 3));
    due(false, () -> w.hides(0, 4));
    due(false, () -> w.hides(1, 2));
    due(false, () -> w.hides(0, 0));
    due(false, () -> w.hides(0, 92));
    due(ARGUMENT, () -> w.hides(0, 96));
    due(ARGUMENT, () -> w.hides(0, -1));
    due(INDEX, () -> w.hides(2, 0));

    begin(25);
    due(INDEX, () -> w.trace(0));
    file(0, "#define A F(LINE)", "#define F(x) x", "A");
    w.run(0);
    due("A F LINE", () -> w.trace(0) + " " + w.trace(1) + " " + w.trace(2));
    due(INDEX, () -> w.trace(3));
    due(INDEX, () -> w.trace(-1));

    begin(26);
    due(INDEX, () -> w.ofError(0, 0));
    file(0, "#line 12 7", "#x", "#error A B", "#define F(x) x", "F(", "#if 0");
    w.run(0);
    due("1 7 12", () -> w.ofError(0, 0) + " " + w.ofError(0, 1) + " " + w.ofError(0, 2));
    due("0 7 13", () -> w.ofError(1, 0) + " " + w.ofError(1, 1) + " " + w.ofError(1, 2));
    due("9 7 15", () -> w.ofError(2, 0) + " " + w.ofError(2, 1) + " " + w.ofError(2, 2));
    due("5 7 16", () -> w.ofError(3, 0) + " " + w.ofError(3, 1) + " " + w.ofError(3, 2));
    due(INDEX, () -> w.ofError(4, 3));
    due(INDEX, () -> w.ofError(-1, 0));
    due(ARGUMENT, () -> w.ofError(0, 3));
    due(ARGUMENT, () -> w.ofError(0, -1));

    due("1@0.4 #include LINE", () -> {
      out("", "", "", "", "#include LINE");
      return errors();
    });
    due("99.2", () -> out("#line 0b1011111", "", "", "", "", "#line 1 LINE", "", "FILE.LINE") + errors());
    due("1@0.100 #line 1 LINE", () -> out("#line 0b1011111", "", "", "", "", "", "#line 1 LINE") + errors());
    due("9999|1@0.10000 #line 0x2710", () -> out("#line 0x270F", "LINE", "#line 0x2710") + "|" + errors());

    begin(27);
    file(0, "#line 12 7", "#x", "#error A B", "#define F(x) x", "F(", "#if 0");
    w.run(0);
    due("#x|A B|F|#if 0", () -> w.errorText(0) + "|" + w.errorText(1) + "|" + w.errorText(2) + "|" + w.errorText(3));
    due(INDEX, () -> w.errorText(4));
    due(INDEX, () -> w.errorText(-1));

    begin(28);
    due(INDEX, () -> w.name(0));
    file(1, "#define z", "#define x A ## B", "#define F(x) x", "#define AA", "#define H(x, ...)#x MORE", "#define _",
        "F(F(x))", "x", "#undef z", "#define G()");
    w.run(1);
    due("AA F G H _ x", () -> w.name(0) + " " + w.name(1) + " " + w.name(2) + " " + w.name(3) + " " + w.name(4) + " "
        + w.name(5));
    due(INDEX, () -> w.name(6));
    due(INDEX, () -> w.name(-1));

    promise = 29;
    due("-1 0 0 10308 0", () -> ofName(0));
    due("1 0 1 10208 2", () -> ofName(1));
    due("0 0 0 10908 0", () -> ofName(2));
    due("2 1 3 10408 0", () -> ofName(3));
    due("-1 0 3 10108 2", () -> ofName(5));
    due(INDEX, () -> w.ofName(6, 5));
    due(ARGUMENT, () -> w.ofName(0, 5));
    due(ARGUMENT, () -> w.ofName(0, -1));

    promise = 30;
    due("A##B", () -> w.body(5));
    due("#x MORE", () -> w.body(3));
    due("", () -> w.body(0));
    due(INDEX, () -> w.body(6));
    due(INDEX, () -> w.body(-1));

    promise = 32;
    due("AA G H _", () -> w.unused(0) + " " + w.unused(1) + " " + w.unused(2) + " " + w.unused(3));
    due(INDEX, () -> w.unused(4));
    due(INDEX, () -> w.unused(-1));

    promise = 33;
    due(true, () -> w.isDefined(6));
    due(true, () -> w.isDefined(12));
    due(false, () -> w.isDefined(11));
    due(false, () -> w.isDefined(15));
    due(false, () -> w.isDefined(0));
    due(false, () -> w.isDefined(72));
    due(ARGUMENT, () -> w.isDefined(96));
    due(ARGUMENT, () -> w.isDefined(-1));

    begin(31);
    due(INDEX, () -> w.lean(0));
    file(0, "#define A LINE", "#if defined B || defined(D) || defined 1", "#elif defined C", "#endif", "#ifndef z", "A",
        "#endif", "#if 1", "#elif defined y", "#endif");
    w.run(0);
    due(6, () -> w.ofRun(10));
    due("A B C D LINE z", () -> w.lean(0) + " " + w.lean(1) + " " + w.lean(2) + " " + w.lean(3) + " " + w.lean(4) + " "
        + w.lean(5));
    due(INDEX, () -> w.lean(6));
    due(INDEX, () -> w.lean(-1));
    file(0, "#if \\", "defined A defined B defined C defined D \\", "defined F defined G defined H defined x \\",
        "defined y defined z defined A1 defined A2\\", " defined A3 defined A7 defined B1 defined B2\\",
        " defined C1 defined C2 defined C3 defined C7\\", " defined D1 defined A");
    w.run(0);
    due("21 A A1 C7 D z", () -> w.ofRun(10) + " " + w.lean(0) + " " + w.lean(1) + " " + w.lean(12) + " " + w.lean(13) + " "
        + w.lean(20));
  }

  private static String ofName(int i) {
    StringBuilder b = new StringBuilder();
    for (int what = 0; what <= 4; what++) {
      b.append(what > 0 ? " " : "").append(w.ofName(i, what));
    }
    return b.toString();
  }

  // ---- what would be

  private static Object reckoned(String text) {
    file(3, text);
    return w.reckon(3, 0);
  }

  private static void wouldBe() {
    begin(34);
    String[] good = {"1", "1", "1 + 2*3", "7", "(1 + 2)*3", "9", "-7/2", "-3", "-7%2", "-1", "7 % -2", "1",
        "1 << 0x1F", "-2147483648", "-1 >> 1", "-1", "1 << 12 * 3 + 1", "32", "3 - 2 - 1", "0", "1 ? 2 : 3 ? 7 : 12", "2",
        "0 ? 2 : 0 ? 7 : 12", "12", "1 ? 0 ? 2 : 3 : 7", "3", "1 || 1/0", "1", "0 && 1/0", "0", "1 ? 2 : 1/0", "2",
        "0 ? 1%0 : 2", "2", "!0 + !!7", "2", "~0", "-1", "- - 1", "1", "1 | 2 ^ 3 & 7", "1", "1 == 1 != 0", "1",
        "1 < 2 == 1", "1", "2 <= 2", "1", "3 <= 2", "0", "2 < 2", "0", "3 < 2", "0", "1 < 2", "1", "2 > 2", "0", "3 > 2", "1", "2 > 3", "0",
        "1 == 2", "0", "2 == 2", "1", "1 != 2", "1", "2 != 2", "0", "2 >= 3", "0", "3 >= 3", "1", "3 > 2 > 1", "0", "A", "0", "defined LINE", "1", "defined(A)", "0",
        "defined defined", "0", "LINE", "0", "0x7FFFFFFF + 1", "-2147483648", "1 && 2", "1", "0 || 0", "0", "2 | 1 && 0", "0",
        "1 ? 2, 3 : 1", STATE, "(1", STATE, "1)", STATE, "1 2", STATE, "", STATE, "1 ? 2", STATE, "1 : 2", STATE,
        "(1 ? 2) : 3", STATE, "1 +", STATE, "* 1", STATE, "'x'", STATE, "0x", STATE, "9999999999", STATE, "1/0", STATE,
        "1 || 0x", STATE, "1/0 || 1", STATE, "1/0 ? 1 : 1", STATE, "defined", STATE, "defined 1", STATE, "defined(A", STATE,
        "defined (1)", STATE, "1 ++ 1", STATE, "#", STATE, "!", STATE, "0 && (1/0)", "0", "(((7)))", "7"};
    for (int i = 0; i < good.length; i += 2) {
      String text = good[i];
      due(good[i + 1], () -> reckoned(text));
    }
    due(INDEX, () -> w.reckon(3, 1));
    due(INDEX, () -> w.reckon(4, 0));
    out("#define F(x) x + 1", "#define A defined");
    due("4 1", () -> reckoned("F(3)") + " " + reckoned("defined A"));
    due(STATE, () -> reckoned("A LINE"));
    due(1, () -> reckoned("F(1) == 2"));

    begin(35);
    out("#define F(x) x + y", "#define B C", "COUNT");
    file(1, "#define F(B) COUNT COUNT", "");
    due("#define C+y 0 1", () -> w.would(1, 0));
    due("", () -> w.would(1, 1));
    due("#define C+y 0 1", () -> w.would(1, 0));
    due(INDEX, () -> w.would(1, 2));
    due(INDEX, () -> w.would(4, 0));

    promise = 36;
    due("7 4 0 2", () -> w.ofWould(1, 0, 0) + " " + w.ofWould(1, 0, 1) + " " + w.ofWould(1, 0, 2) + " "
        + w.ofWould(1, 0, 3));
    file(1, "F( F()");
    due(1, () -> w.ofWould(1, 0, 2));
    due(INDEX, () -> w.ofWould(1, 1, 4));
    due(INDEX, () -> w.ofWould(-1, 0, 0));
    due(ARGUMENT, () -> w.ofWould(1, 0, 4));
    due(ARGUMENT, () -> w.ofWould(1, 0, -1));
    due("1 1", () -> w.ofRun(0) + " " + w.ofRun(7));
  }

  // ---- the desk

  private static void laid() {
    begin(37);
    file(1, "#define F(x) x + y", "F(A) B", "COUNT\\", "COUNT");
    w.run(1);
    due(5, () -> w.load(1, 1));
    due("@F(A)B", () -> w.desk());
    due(1, () -> w.load(1, 2));
    due(INDEX, () -> w.load(1, 4));
    due(INDEX, () -> w.load(4, 0));
    due("@COUNTCOUNT", () -> w.desk());
    w.step();
    w.tail(2);
    w.load(1, 1);
    due("5 0 0 0 0 -1 0 0", () -> ofDesk());

    begin(38);
    due(0, () -> w.step());
    file(0, "#define F(x) x", "#define A B", "F(A) LINE (", "#define G(x, y)#x", "F( G(A, B)");
    w.run(0);
    w.load(0, 2);
    due("4@F(@A)LINE(", () -> w.step() + "@" + w.desk());
    due("3@F(@B)LINE(", () -> w.step() + "@" + w.desk());
    due("1@F(B@)LINE(", () -> w.step() + "@" + w.desk());
    due("5@@B LINE(", () -> w.step() + "@" + w.desk());
    due("1@B@LINE(", () -> w.step() + "@" + w.desk());
    due("2@B 2@(", () -> w.step() + "@" + w.desk());
    due("1 0", () -> w.step() + " " + w.step());
    w.load(0, 4);
    due("1 1 4 5", () -> w.step() + " " + w.step() + " " + w.step() + " " + w.step());
    w.tail(2);
    due(-8, () -> w.step());

    begin(39);
    due(0, () -> w.finish());
    file(0, "#define F(x) x", "F(A) F(B)", "A B");
    w.run(0);
    w.load(0, 1);
    due("8 A B@", () -> w.finish() + " " + w.desk());
    due(0, () -> w.finish());
    w.tail(3);
    due(-8, () -> w.finish());
    w.load(0, 2);
    due(2, () -> w.finish());
  }

  private static String ofDesk() {
    StringBuilder b = new StringBuilder();
    for (int what = 0; what <= 7; what++) {
      b.append(what > 0 ? " " : "").append(w.ofDesk(what));
    }
    return b.toString();
  }

  /** A desk on which a call is OPEN. */
  private static void openCall() {
    file(0, "#define F(x) x", "F(A)");
    w.run(0);
    w.load(0, 1);
    w.step();
  }

  private static void moved() {
    begin(40);
    due(-9, () -> w.ahead());
    file(0, "A 1 'x' ;");
    w.load(0, 0);
    due("0 1 2 3 -9", () -> w.ahead() + " " + w.ahead() + " " + w.ahead() + " " + w.ahead() + " " + w.ahead());
    due(-7, () -> w.drop());
    w.cursor(0);
    w.ahead();
    due("3 @1'x';", () -> w.drop() + " " + w.desk());
    w.tail(2);
    due(-8, () -> w.ahead());
    openCall();
    due(STATE, () -> w.ahead());

    begin(41);
    due(-9, () -> w.back());
    file(0, "A 1 'x' ;");
    w.load(0, 0);
    w.cursor(4);
    due("3 2 1 0 -9", () -> w.back() + " " + w.back() + " " + w.back() + " " + w.back() + " " + w.back());
    due(-7, () -> w.drop());
    w.cursor(2);
    w.back();
    due("3 A@'x';", () -> w.drop() + " " + w.desk());
    w.tail(2);
    due(-8, () -> w.back());
    openCall();
    due(STATE, () -> w.back());

    begin(42);
    due(-7, () -> w.drop());
    file(0, "A B C D");
    w.load(0, 0);
    w.ahead();
    w.ahead();
    due("3 A@C D", () -> w.drop() + " " + w.desk());
    due(-7, () -> w.drop());
    w.ahead();
    w.tail(6);
    due(-8, () -> w.drop());
    w.cursor(2);
    due(-7, () -> w.drop());
    w.back();
    w.step();
    due(-7, () -> w.drop());
    w.back();
    w.finish();
    due(-7, () -> w.drop());
    w.back();
    w.put(2);
    due(-7, () -> w.drop());
    w.back();
    w.put(1);
    due("4 A C D@F", () -> w.drop() + " " + w.desk());
    w.ahead();
    w.load(0, 0);
    due(-7, () -> w.drop());
    openCall();
    due(STATE, () -> w.drop());
  }

  private static void changed() {
    begin(43);
    due("1 A@", () -> w.put(2) + " " + w.desk());
    due("3 A A B C@", () -> w.put(85) + " " + w.desk());
    due("0 4", () -> w.put(1) + " " + w.ofDesk(0));
    w.cursor(1);
    due("6 A G(y,x)@A B C", () -> w.put(95) + " " + w.desk());
    due(ARGUMENT, () -> w.put(96));
    due(ARGUMENT, () -> w.put(-1));
    w.tail(2);
    due(-8, () -> w.put(2));
    due(ARGUMENT, () -> w.put(96));
    w.cursor(0);
    file(0, "#line 7 3", "LINE FILE");
    w.load(0, 1);
    w.put(12);
    w.cursor(0);
    w.finish();
    due("1 1 0@", () -> w.desk());
    w.load(0, 0);
    for (int i = 0; i < 31; i++) {
      w.put(85);
    }
    due(97, () -> w.ofDesk(0));
    due(3, () -> w.put(85));
    due(STATE, () -> w.put(0));
    due(STATE, () -> w.put(2));
    openCall();
    due(STATE, () -> w.put(2));
    due(ARGUMENT, () -> w.put(96));

    file(3, "", "B");
    w.load(3, 1);
    w.put(12);
    w.put(13);
    w.ahead();
    w.swap(12);
    w.tail(13);
    w.cursor(0);
    w.finish();
    due("1 3 1 3@", () -> w.desk());

    begin(44);
    due(-7, () -> w.swap(2));
    file(0, "A B C");
    w.load(0, 0);
    w.ahead();
    due("3 ;@B C", () -> w.swap(50) + " " + w.desk());
    due("1 12@B C", () -> w.swap(22) + " " + w.desk());
    due("2 @B C", () -> w.drop() + " " + w.desk());
    due(ARGUMENT, () -> w.swap(0));
    due(ARGUMENT, () -> w.swap(85));
    due(ARGUMENT, () -> w.swap(96));
    w.ahead();
    w.tail(2);
    due(-8, () -> w.swap(2));
    due(ARGUMENT, () -> w.swap(1));
    openCall();
    due(STATE, () -> w.swap(2));
    due(ARGUMENT, () -> w.swap(1));

    begin(45);
    due("0 0", () -> w.tail(0) + " " + w.ofDesk(7));
    due("3 1 @A B C", () -> w.tail(85) + " " + w.ofDesk(7) + " " + w.desk());
    due("4 @A B C x", () -> w.tail(9) + " " + w.desk());
    due(ARGUMENT, () -> w.tail(96));
    for (int i = 0; i < 32; i++) {
      w.tail(85);
    }
    due(STATE, () -> w.tail(0));
    openCall();
    due(STATE, () -> w.tail(0));
    due(ARGUMENT, () -> w.tail(-1));
    file(0, "A");
    w.load(0, 0);
    w.ahead();
    w.tail(3);
    w.cursor(1);
    due("A@B", () -> w.desk());

    begin(46);
    due(0, () -> w.cursor(0));
    due(INDEX, () -> w.cursor(1));
    due(INDEX, () -> w.cursor(-1));
    w.tail(85);
    due("1 0 A B C@", () -> w.cursor(3) + " " + w.cursor(3) + " " + w.desk());
    due(INDEX, () -> w.cursor(4));
    due(0, () -> w.cursor(1));
    due(0, () -> w.back());
    openCall();
    due(STATE, () -> w.cursor(0));
    due(INDEX, () -> w.cursor(5));
  }

  private static void told() {
    begin(47);
    due("@", () -> w.desk());
    file(0, "A ( B + + 1");
    w.load(0, 0);
    w.cursor(4);
    due("A(B+@+1", () -> w.desk());
    w.run(1);
    due("@", () -> w.desk());

    begin(48);
    due("0 0 0 0 0 -1 0 0", () -> ofDesk());
    file(0, "#define F(x) x", "F(F(COUNT) F()");
    w.run(0);
    w.load(0, 1);
    w.step();
    due("9 1 0 0 1 9 0 0", () -> ofDesk());
    w.step();
    w.step();
    w.step();
    due("9 5 1 2 1 9 1 0", () -> ofDesk());
    w.finish();
    due("3 3 0 3 1 9 1 0", () -> ofDesk());
    w.tail(2);
    due("4 3 0 3 1 9 1 1", () -> ofDesk());
    due(ARGUMENT, () -> w.ofDesk(8));
    due(ARGUMENT, () -> w.ofDesk(-1));

    begin(49);
    due("1 2 3", () -> w.knock() + " " + w.knock() + " " + w.knock());

    begin(50);
    due(true, () -> w.isSound());
    file(0, "#define F(x) x + F(#x)", "#define G(x, y) x ## y F(y)", "G(F(1), 'it''s'G(A)");
    w.run(0);
    due(true, () -> w.isSound());

    begin(51);
    due(empty(), () -> w.digest());
    long before = w.digest();
    w.knock();
    due(before + 31, () -> w.digest());
    file(0, "#define A 1", "A");
    long typed = w.digest();
    due(true, () -> typed != before);
    w.run(0);
    long run = w.digest();
    due(true, () -> run != typed && run == w.digest());
  }

  /** What digest() is of an object as it is made. */
  private static long empty() {
    long d = 5405;
    for (int i = 0; i < 13; i++) {
      d = d * 31;
    }
    d = d * 31 - 1;
    for (int i = 0; i < 16; i++) {
      d = d * 31;
    }
    int[] desk = {0, 0, 0, 0, 0, -1, 0, 0, 1, 0, 1};
    for (int v : desk) {
      d = d * 31 + v;
    }
    return d;
  }

  public static void main(String[] args) {
    typing();
    reading();
    names();
    expanding();
    ofRuns();
    asks();
    wouldBe();
    laid();
    moved();
    changed();
    told();
    if (wrong > 0) {
      System.out.println(wrong + " wrong");
      System.exit(1);
    }
  }
}
