import java.util.ArrayDeque;
import java.util.ArrayList;
import java.util.Arrays;
import java.util.Collections;
import java.util.Deque;
import java.util.List;
import java.util.Objects;
import java.util.Random;
import java.util.Set;
import java.util.TreeMap;
import java.util.TreeSet;
import java.util.regex.Matcher;
import java.util.regex.Pattern;

/**
 * Runs of random calls, each answered by Wordbefore and by a model of the document that is built in another way: with
 * lists of words as objects, a row of its own for each open call, a parser that descends, and files read recursively.
 * Arguments: how many runs, and the first seed.
 */
public final class ModelTest {

  // ---- the model

  static final String[] PIECES = {
      "", " ", "A", "B", "C", "D", "F", "G", "H", "x", "y", "z", "LINE", "FILE", "COUNT", "MORE", "defined", "0", "1",
      "2", "3", "7", "12", "017", "0x1F", "0b101", "9999999999", "0x", "(", ")", ",", ".", "...", "#", "##", "+", "-",
      "*", "/", "%", "<", ">", "=", "!", "&", "|", "^", "~", "?", ":", ";", "'", "[", "]", "\\", "_", "'it''s'", " ## ",
      "<<", ">=", "#define ", "#undef ", "#if ", "#ifdef ", "#ifndef ", "#elif ", "#else", "#endif", "#include ",
      "#once", "#line ", "#error ", "F(x) ", "G(x, y) ", "H(x, ...) ", "F(A)", "G(A, B)", "G(F(1), A)", "F(F(2))",
      "H(1, 2, 3)", "x ## y", "#x", "x + y", "(x)", "x MORE", "A B C", " == ", " && ", " || ", "defined ", "F(",
      "A, B)", "F A", "#MORE", "y x", "G(y, x)"};

  static final int TOLD = 0, BAD_ORDER = 1, DIFFERENT = 2, FULL = 3, STRAY = 4, OPEN = 5, DEEP = 6, BAD_CONDITION = 7,
      BAD_NUMBER = 8, UNCLOSED = 9, MISFIT = 10, NESTED = 11, CUT = 12, SPENT = 13, NO_WORD = 14;

  static final class Word implements Cloneable {
    String s;
    boolean blank;
    boolean isNew;
    int file;
    int line;
    Set<String> hides = new TreeSet<>();
    List<Integer> chain = new ArrayList<>();

    Word(String s) {
      this.s = s;
    }

    Word copy() {
      Word w = new Word(s);
      w.blank = blank;
      w.isNew = isNew;
      w.file = file;
      w.line = line;
      w.hides.addAll(hides);
      w.chain.addAll(chain);
      return w;
    }

    int kind() {
      return kindOf(s);
    }
  }

  static int kindOf(String s) {
    return s.matches("[A-Za-z_].*") ? 0 : s.matches("[0-9].*") ? 1 : s.startsWith("'") ? 2 : 3;
  }

  static List<Word> copies(List<Word> row) {
    List<Word> list = new ArrayList<>();
    for (Word w : row) {
      list.add(w.copy());
    }
    return list;
  }

  static final Pattern WORD = Pattern.compile("(?<blank> )|(?<comment>\\[[^\\]]*\\]?)|[A-Za-z_][A-Za-z0-9_]*"
      + "|[0-9][A-Za-z0-9_]*|\\.\\.\\.|\\.\\.|##|\\+\\+|--|<<|<=|>>|>=|==|!=|&&|\\|\\||.");

  /** A text has become too long for the model; the run ends without a word on it. */
  static final class TooLong extends Error {
    private static final long serialVersionUID = 1;

    TooLong() {
      super(null, null, false, false);
    }
  }

  static int longest = 400000;

  static String kept(String s) {
    if (s.length() > longest) {
      throw new TooLong();
    }
    return s;
  }

  /** Where the TEXT ends that begins there; -1, if nothing ends it. */
  static int endOfText(String text, int from) {
    int at = from + 1;
    while (true) {
      at = text.indexOf('\'', at);
      if (at < 0) {
        return -1;
      }
      if (at + 1 == text.length() || text.charAt(at + 1) != '\'') {
        return at + 1;
      }
      at += 2;
    }
  }

  static List<Word> read(String text, int[] places, int file, int line, boolean joined) {
    List<Word> row = new ArrayList<>();
    Matcher m = WORD.matcher(text);
    boolean blank = false;
    int at = 0;
    while (at < text.length()) {
      int start = at;
      String s;
      if (text.charAt(at) == '\'') {
        int end = endOfText(text, at);
        at = end < 0 ? text.length() : end;
        s = text.substring(start, at) + (end < 0 ? "'" : "");
      } else {
        m.region(at, text.length()).lookingAt();
        at = m.end();
        s = m.group();
        if (m.group("blank") != null || m.group("comment") != null) {
          blank = true;
          continue;
        }
      }
      Word w = new Word(s);
      w.blank = blank;
      w.isNew = joined && row.isEmpty();
      w.file = file;
      w.line = line;
      w.chain.add(places == null ? 99999 : places[start]);
      row.add(w);
      blank = false;
    }
    return row;
  }

  static List<String> spellings(List<Word> row) {
    List<String> list = new ArrayList<>();
    for (Word w : row) {
      list.add(w.s);
    }
    return list;
  }

  static boolean apart(String a, String b) {
    return spellings(read(a + b, null, 0, 0, false)).equals(List.of(a, b));
  }

  static String textOut(List<Word> row) {
    StringBuilder b = new StringBuilder();
    for (int i = 0; i < row.size(); i++) {
      if (i > 0 && !apart(row.get(i - 1).s, row.get(i).s)) {
        b.append(' ');
      }
      b.append(row.get(i).s);
    }
    return kept(b.toString());
  }

  static String quote(List<Word> row) {
    StringBuilder b = new StringBuilder();
    for (int i = 0; i < row.size(); i++) {
      Word w = row.get(i);
      if (i > 0 && (w.blank || w.isNew || !apart(row.get(i - 1).s, w.s))) {
        b.append(' ');
      }
      b.append(w.s);
    }
    return kept("'" + b.toString().replace("'", "''") + "'");
  }

  static String inside(String quoted) {
    return quoted.substring(1, quoted.length() - 1).replace("''", "'");
  }

  static Word paste(Word a, Word b) {
    kept(a.s + b.s);
    List<String> list = spellings(read(a.s + b.s, null, 0, 0, false));
    if (!list.equals(List.of(a.s + b.s))) {
      return null;
    }
    Word w = a.copy();
    w.s = a.s + b.s;
    w.hides.addAll(b.hides);
    return w;
  }

  static Long value(String s) {
    int base = s.startsWith("0x") ? 16 : s.startsWith("0b") ? 2 : s.startsWith("0") && s.length() > 1 ? 8 : 10;
    String digits = base == 16 || base == 2 ? s.substring(2) : base == 8 ? s.substring(1) : s;
    if (digits.isEmpty()) {
      return null;
    }
    for (char c : digits.toCharArray()) {
      if (Character.digit(c, base) < 0) {
        return null;
      }
    }
    String behindZeros = digits.replaceFirst("^0+", "");
    if (behindZeros.length() > 40) {
      return null;
    }
    java.math.BigInteger v = new java.math.BigInteger("0" + behindZeros, base);
    return v.bitLength() > 31 ? null : (Long) v.longValue();
  }

  record Fault(int kind, int file, int line, String text) {
  }

  static final class Name {
    String s;
    List<String> parameters;
    boolean more;
    List<Word> body;
    int place;

    boolean pasted(int i) {
      return i > 0 && body.get(i - 1).s.equals("##") || i + 1 < body.size() && body.get(i + 1).s.equals("##");
    }

    boolean needed(int p) {
      for (int i = 0; i < body.size(); i++) {
        boolean hashed = i > 0 && body.get(i - 1).s.equals("#");
        if (body.get(i).s.equals(parameters.get(p)) && !hashed && !pasted(i)) {
          return true;
        }
      }
      return false;
    }

    boolean alike(Name o) {
      if (!Objects.equals(parameters, o.parameters) || more != o.more
          || !spellings(body).equals(spellings(o.body))) {
        return false;
      }
      for (int i = 1; i < body.size(); i++) {
        if (body.get(i).blank != o.body.get(i).blank) {
          return false;
        }
      }
      return true;
    }
  }

  static final Set<String> BUILT_IN = Set.of("LINE", "FILE", "COUNT");
  static final Set<String> RESERVED = Set.of("LINE", "FILE", "COUNT", "MORE", "defined");

  static final class Tally {
    List<String> trace = new ArrayList<>();
    int count;
    boolean spent;
    List<Fault> faults = new ArrayList<>();

    void fault(int kind, Word w) {
      faults.add(new Fault(kind, w.file, w.line, w.s));
    }
  }

  /** A call that is open: where it stands in the row around it, and its arguments. */
  static final class Call {
    Name name;
    int w;
    int close;
    List<List<Word>> typed = new ArrayList<>();
    List<List<Word>> expanded = new ArrayList<>();
    List<Word> commas = new ArrayList<>();
    int at;
  }

  /** A row that is expanded; the innermost level is the row at hand. */
  static final class Level {
    List<Word> row;
    int point;
    Call call;
  }

  final class Expansion {
    final Deque<Level> levels = new ArrayDeque<>();
    Tally tally;

    Expansion(List<Word> row, Tally tally) {
      this.tally = tally;
      Level level = new Level();
      level.row = copies(row);
      levels.push(level);
    }

    int open() {
      return levels.size() - 1;
    }

    List<Word> ahead() {
      return part(true);
    }

    List<Word> behind() {
      return part(false);
    }

    /** The whole row, or one of its two parts, laid out from the levels. */
    private List<Word> part(boolean ahead) {
      List<Word> before = new ArrayList<>();
      List<Word> after = new ArrayList<>();
      List<Level> all = new ArrayList<>(levels);
      Collections.reverse(all);
      for (Level level : all) {
        Call call = level.call;
        if (call == null) {
          before.addAll(level.row.subList(0, level.point));
          after.addAll(0, level.row.subList(level.point, level.row.size()));
          continue;
        }
        before.addAll(level.row.subList(0, call.w + 2));
        List<Word> rest = new ArrayList<>();
        for (int i = 0; i < call.expanded.size(); i++) {
          if (i < call.at) {
            before.addAll(call.expanded.get(i));
            if (i < call.commas.size()) {
              before.add(call.commas.get(i));
            }
          } else {
            if (i > call.at) {
              rest.addAll(call.typed.get(i));
            }
            if (i < call.commas.size()) {
              rest.add(call.commas.get(i));
            }
          }
        }
        rest.addAll(level.row.subList(call.close, level.row.size()));
        after.addAll(0, rest);
      }
      return ahead ? before : after;
    }

    int look() {
      Level level = levels.peek();
      if (open() > 0) {
        Level around = around();
        Call call = around.call;
        while (true) {
          boolean there = call.at < call.typed.size();
          if (there && call.name.needed(call.at) && level.point < level.row.size()) {
            break;
          }
          if (there) {
            call.expanded.set(call.at, level.row);
          }
          call.at++;
          if (call.at >= call.typed.size()) {
            levels.pop();
            around.call = null;
            comeIn(around, call.w, call.close + 1, call);
            return 5;
          }
          level.row = copies(call.typed.get(call.at));
          level.point = 0;
        }
      } else if (level.point >= level.row.size()) {
        return 0;
      }
      return lookAt(level);
    }

    private Level around() {
      var it = levels.iterator();
      it.next();
      return it.next();
    }

    private int lookAt(Level level) {
      Word w = level.row.get(level.point);
      Name name = names.get(w.s);
      boolean builtIn = BUILT_IN.contains(w.s);
      boolean calls = name != null && name.parameters != null;
      Call call = null;
      boolean over = name == null && !builtIn || w.hides.contains(w.s);
      if (!over && calls) {
        over = level.point + 1 >= level.row.size() || !level.row.get(level.point + 1).s.equals("(");
      }
      if (!over && tally.trace.size() >= 80) {
        over = true;
        if (!tally.spent) {
          tally.spent = true;
          tally.fault(SPENT, w);
        }
      }
      if (!over && calls) {
        int close = closing(level.row, level.point + 1);
        call = close < 0 ? null : split(name, level.row, level.point, close);
        int kind = close < 0 ? UNCLOSED : call == null ? MISFIT : open() >= 6 ? NESTED : -1;
        if (kind >= 0) {
          over = true;
          tally.fault(kind, w);
        }
      }
      if (over) {
        level.point++;
        return 1;
      }
      tally.trace.add(w.s);
      if (builtIn) {
        w.s = String.valueOf(w.s.equals("LINE") ? w.line : w.s.equals("FILE") ? w.file : tally.count++);
        level.point++;
        return 2;
      }
      if (!calls) {
        Call plain = new Call();
        plain.name = name;
        comeIn(level, level.point, level.point + 1, plain);
        return 3;
      }
      level.call = call;
      Level inner = new Level();
      inner.row = call.typed.isEmpty() ? new ArrayList<>() : copies(call.typed.get(0));
      levels.push(inner);
      return 4;
    }

    private int closing(List<Word> row, int from) {
      int depth = 0;
      for (int i = from; i < row.size(); i++) {
        depth += row.get(i).s.equals("(") ? 1 : row.get(i).s.equals(")") ? -1 : 0;
        if (depth == 0) {
          return i;
        }
      }
      return -1;
    }

    /** The call with its arguments; null, if they do not fit. */
    private Call split(Name name, List<Word> row, int w, int close) {
      Call call = new Call();
      call.name = name;
      call.w = w;
      call.close = close;
      int n = name.parameters.size();
      if (n == 0) {
        return close == w + 2 ? call : null;
      }
      int most = name.more ? n - 1 : Integer.MAX_VALUE;
      List<Word> one = new ArrayList<>();
      int depth = 0;
      for (int i = w + 2; i < close; i++) {
        Word word = row.get(i);
        depth += word.s.equals("(") ? 1 : word.s.equals(")") ? -1 : 0;
        if (word.s.equals(",") && depth == 0 && call.commas.size() < most) {
          call.commas.add(word);
          call.typed.add(one);
          one = new ArrayList<>();
        } else {
          one.add(word.copy());
        }
      }
      call.typed.add(one);
      if (name.more && call.typed.size() == n - 1) {
        call.typed.add(new ArrayList<>());
      }
      for (List<Word> list : call.typed) {
        for (Word word : list) {
          word.blank |= word.isNew;
          word.isNew = false;
        }
        call.expanded.add(list);
      }
      return call.typed.size() == n ? call : null;
    }

    private void comeIn(Level level, int from, int end, Call call) {
      Word w = level.row.get(from);
      List<Word> made = make(call, w);
      for (Word word : made) {
        word.hides.addAll(w.hides);
        word.hides.add(w.s);
        word.chain.addAll(w.chain);
        while (word.chain.size() > 8) {
          word.chain.remove(8);
        }
      }
      level.row.subList(from, end).clear();
      level.row.addAll(from, made);
      level.point = from;
      if (!made.isEmpty()) {
        made.get(0).blank = w.blank;
        made.get(0).isNew = w.isNew;
      } else if (from < level.row.size()) {
        level.row.get(from).blank |= w.blank;
        level.row.get(from).isNew |= w.isNew;
      }
    }

    private List<Word> make(Call call, Word w) {
      Name name = call.name;
      List<Word> made = new ArrayList<>();
      boolean pastes = false;
      for (int i = 0; i < name.body.size(); i++) {
        Word b = name.body.get(i);
        if (b.s.equals("##")) {
          pastes = true;
          continue;
        }
        List<Word> next = new ArrayList<>();
        int p = name.parameters == null ? -1 : name.parameters.indexOf(b.s);
        if (b.s.equals("#") && name.parameters != null) {
          i++;
          Word text = b.copy();
          text.s = quote(call.typed.get(name.parameters.indexOf(name.body.get(i).s)));
          text.file = w.file;
          text.line = w.line;
          next.add(text);
        } else if (p >= 0) {
          next = copies(name.pasted(i) ? call.typed.get(p) : call.expanded.get(p));
          if (next.isEmpty() && name.pasted(i)) {
            next.add(new Word(""));
          }
          if (!next.isEmpty()) {
            next.get(0).blank = b.blank;
          }
        } else {
          Word word = b.copy();
          word.file = w.file;
          word.line = w.line;
          next.add(word);
        }
        if (pastes) {
          Word last = made.remove(made.size() - 1);
          Word first = next.remove(0);
          Word both = last.s.isEmpty() ? first : first.s.isEmpty() ? last : paste(last, first);
          if (both != null) {
            next.add(0, both);
          } else {
            first.blank = false;
            first.isNew = false;
            next.add(0, first);
            next.add(0, last);
            tally.faults.add(new Fault(NO_WORD, w.file, w.line, last.s + first.s));
          }
          pastes = false;
        }
        made.addAll(next);
      }
      made.removeIf(word -> word.s.isEmpty());
      if (made.size() > 30) {
        made = new ArrayList<>(made.subList(0, 30));
        tally.fault(CUT, w);
      }
      return made;
    }

    List<Word> finish() {
      while (look() != 0) {
        // till one finds nothing left
      }
      return levels.peek().row;
    }
  }

  // ---- the state

  final List<List<StringBuilder>> files = new ArrayList<>();
  final TreeMap<String, Name> names = new TreeMap<>();
  List<Word> out = new ArrayList<>();
  Tally tally = new Tally();
  int[] totals = new int[14];
  int[] entered = new int[4];
  boolean[] once = new boolean[4];
  TreeSet<String> leans = new TreeSet<>();
  TreeSet<String> unused = new TreeSet<>();
  Expansion desk = new Expansion(List.of(), new Tally());
  Word touched;
  boolean lost;
  int deskFile;
  int deskLine;
  int refused;


  // ---- typing and reading

  void file(int file) {
    if (file < 0 || file > 3) {
      throw new IndexOutOfBoundsException();
    }
  }

  void line(int file, int line) {
    file(file);
    below(line, files.get(file).size());
  }

  void below(int k, int size) {
    if (k < 0 || k >= size) {
      throw new IndexOutOfBoundsException();
    }
  }

  void argument(boolean good) {
    if (!good) {
      throw new IllegalArgumentException();
    }
  }

  void state(boolean good) {
    if (!good) {
      throw new IllegalStateException();
    }
  }

  String pieces(int... list) {
    StringBuilder b = new StringBuilder();
    for (int piece : list) {
      argument(piece >= 0 && piece <= 95);
      b.append(PIECES[piece]);
    }
    return b.toString();
  }

  int line(int file, int a, int b, int c, int d, int e) {
    file(file);
    String s = pieces(a, b, c, d, e);
    argument(s.length() <= 48);
    state(files.get(file).size() < 10);
    files.get(file).add(new StringBuilder(s));
    return files.get(file).size();
  }

  int more(int file, int a, int b, int c, int d, int e) {
    file(file);
    String s = pieces(a, b, c, d, e);
    List<StringBuilder> lines = files.get(file);
    state(!lines.isEmpty());
    StringBuilder last = lines.get(lines.size() - 1);
    state(last.length() + s.length() <= 48);
    last.append(s);
    return last.length();
  }

  int strike(int file, int line) {
    line(file, line);
    return files.get(file).remove(line).length();
  }

  int empty(int file) {
    file(file);
    int n = files.get(file).size();
    files.get(file).clear();
    return n;
  }

  String piece(int piece) {
    return pieces(piece);
  }

  Word onlyWord(int piece) {
    List<Word> row = read(pieces(piece), null, 0, 0, false);
    argument(row.size() == 1);
    return row.get(0);
  }

  boolean isApart(int first, int second) {
    return apart(onlyWord(first).s, onlyWord(second).s);
  }

  int paste(int first, int second) {
    Word w = paste(onlyWord(first), onlyWord(second));
    return w == null ? -1 : w.kind();
  }

  String text(int file, int line) {
    line(file, line);
    return files.get(file).get(line).toString();
  }

  int end;

  List<Word> joined(int file, int line, int toldFile, int toldLine) {
    StringBuilder b = new StringBuilder();
    List<Integer> places = new ArrayList<>();
    List<StringBuilder> lines = files.get(file);
    for (end = line; end < lines.size(); end++) {
      String s = lines.get(end).toString();
      boolean on = s.endsWith("\\");
      String taken = on ? s.substring(0, s.length() - 1) : s;
      b.append(taken);
      for (int i = 0; i < taken.length(); i++) {
        places.add(10000 * file + 100 * end + i);
      }
      if (!on || end + 1 == lines.size()) {
        break;
      }
    }
    return read(b.toString(), places.stream().mapToInt(i -> i).toArray(), toldFile, toldLine, true);
  }

  List<Word> row(int file, int line) {
    line(file, line);
    return joined(file, line, file, line);
  }

  int words(int file, int line) {
    return row(file, line).size();
  }

  Word theWord(int file, int line, int k) {
    List<Word> row = row(file, line);
    below(k, row.size());
    return row.get(k);
  }

  String word(int file, int line, int k) {
    return theWord(file, line, k).s;
  }

  int ofWord(int file, int line, int k, int what) {
    Word w = theWord(file, line, k);
    argument(what >= 0 && what <= 3);
    return new int[] {w.kind(), w.blank ? 1 : 0, w.chain.get(0), w.s.length()}[what];
  }

  int number(int file, int line, int k) {
    Word w = theWord(file, line, k);
    state(w.kind() == 1 && value(w.s) != null);
    return (int) (long) value(w.s);
  }

  String plain(int file, int line) {
    return textOut(row(file, line));
  }

  String quoted(int file, int line) {
    return quote(row(file, line));
  }

  String again(int file, int line, int k) {
    List<Word> row = read(inside(quoted(file, line)), null, 0, 0, false);
    below(k, row.size());
    return row.get(k).s;
  }

  // ---- running

  static final class If {
    boolean on;
    boolean done;
    boolean hadElse;
    Fault open;
  }

  int run(int file) {
    file(file);
    names.clear();
    out = new ArrayList<>();
    tally = new Tally();
    totals = new int[14];
    entered = new int[4];
    once = new boolean[4];
    leans.clear();
    unused.clear();
    desk = new Expansion(List.of(), new Tally());
    touched = null;
    lost = false;
    deskFile = 0;
    deskLine = 0;
    totals[13] = file;
    enter(file, 0);
    leans.addAll(tally.trace);
    for (String name : names.keySet()) {
      if (!tally.trace.contains(name)) {
        unused.add(name);
      }
    }
    totals[0] = out.size();
    totals[1] = (int) out.stream().filter(w -> w.isNew).count();
    totals[2] = tally.faults.size();
    totals[3] = tally.trace.size();
    totals[4] = names.size();
    totals[7] = tally.count;
    totals[10] = leans.size();
    totals[11] = unused.size();
    totals[12] = out.stream().mapToInt(w -> w.hides.size()).max().orElse(0);
    return out.size();
  }

  private boolean taken(List<If> ifs) {
    return ifs.stream().allMatch(i -> i.on);
  }

  private void enter(int file, int depth) {
    entered[file]++;
    totals[5]++;
    totals[6] = Math.max(totals[6], depth);
    List<If> ifs = new ArrayList<>();
    List<Word> block = new ArrayList<>();
    int toldFile = file;
    int next = 0;
    int toldNext = 0;
    while (next < files.get(file).size()) {
      List<Word> row = joined(file, next, toldFile, toldNext);
      toldNext += end + 1 - next;
      next = end + 1;
      if (row.isEmpty() || !row.get(0).s.equals("#")) {
        if (taken(ifs)) {
          block.addAll(row);
        } else if (!row.isEmpty()) {
          totals[9]++;
        }
        continue;
      }
      goOut(block);
      String order = row.size() > 1 ? row.get(1).s : "";
      List<Word> rest = row.size() > 2 ? row.subList(2, row.size()) : List.of();
      Fault at = new Fault(BAD_ORDER, row.get(0).file, row.get(0).line, textOut(row));
      If top = ifs.isEmpty() ? null : ifs.get(ifs.size() - 1);
      if (order.equals("if") || order.equals("ifdef") || order.equals("ifndef")) {
        If i = new If();
        i.open = new Fault(OPEN, at.file, at.line, at.text);
        if (!taken(ifs)) {
          i.done = true;
        } else {
          totals[8]++;
          i.on = order.equals("if") ? isTrue(rest, at) : isThere(rest, order.equals("ifdef"), at);
          i.done = i.on;
        }
        ifs.add(i);
      } else if (order.equals("elif") || order.equals("else") || order.equals("endif")) {
        if (top == null || top.hadElse && !order.equals("endif")) {
          fault(STRAY, at);
        } else if (order.equals("endif")) {
          ifs.remove(top);
        } else if (order.equals("else")) {
          top.on = !top.done;
          top.done = true;
          top.hadElse = true;
        } else if (top.done) {
          top.on = false;
        } else {
          totals[8]++;
          top.on = isTrue(rest, at);
          top.done = top.on;
        }
      } else if (!taken(ifs)) {
        totals[9]++;
      } else if (order.equals("line")) {
        List<Word> numbers = numbers(rest, 2, at);
        if (numbers != null) {
          long line = value(numbers.get(0).s);
          long told = numbers.size() > 1 ? value(numbers.get(1).s) : toldFile;
          if (line > 9999 || told > 99) {
            fault(BAD_ORDER, at);
          } else {
            toldNext = (int) line;
            toldFile = (int) told;
          }
        }
      } else if (order.equals("once")) {
        once[file] = true;
      } else if (order.equals("include")) {
        List<Word> numbers = numbers(rest, 1, at);
        if (numbers != null) {
          long which = value(numbers.get(0).s);
          if (which > 3) {
            fault(BAD_ORDER, at);
          } else if (!once[(int) which]) {
            if (depth >= 3 || totals[5] >= 8) {
              fault(DEEP, at);
            } else {
              enter((int) which, depth + 1);
            }
          }
        }
      } else if (order.equals("error")) {
        tally.faults.add(new Fault(TOLD, at.file, at.line, textOut(rest)));
      } else if (order.equals("define")) {
        define(rest, at);
      } else if (order.equals("undef")) {
        if (rest.size() != 1 || !free(rest.get(0))) {
          fault(BAD_ORDER, at);
        } else {
          names.remove(rest.get(0).s);
        }
      } else if (row.size() > 1) {
        fault(BAD_ORDER, at);
      }
    }
    goOut(block);
    for (int i = ifs.size() - 1; i >= 0; i--) {
      tally.faults.add(ifs.get(i).open);
    }
  }

  private void fault(int kind, Fault at) {
    tally.faults.add(new Fault(kind, at.file, at.line, at.text));
  }

  private void goOut(List<Word> block) {
    out.addAll(new Expansion(block, tally).finish());
    block.clear();
  }

  private List<Word> numbers(List<Word> rest, int most, Fault at) {
    List<Word> row = new Expansion(rest, tally).finish();
    if (row.isEmpty() || row.size() > most || !row.stream().allMatch(w -> w.kind() == 1)) {
      fault(BAD_ORDER, at);
      return null;
    }
    for (Word w : row) {
      if (value(w.s) == null) {
        tally.faults.add(new Fault(BAD_NUMBER, at.file, at.line, w.s));
        return null;
      }
    }
    return row;
  }

  private boolean known(String s) {
    return names.containsKey(s) || BUILT_IN.contains(s);
  }

  private boolean isThere(List<Word> rest, boolean wanted, Fault at) {
    if (rest.size() != 1 || rest.get(0).kind() != 0) {
      fault(BAD_ORDER, at);
      return false;
    }
    leans.add(rest.get(0).s);
    return known(rest.get(0).s) == wanted;
  }

  private boolean isTrue(List<Word> rest, Fault at) {
    try {
      return reckon(rest, tally, leans) != 0;
    } catch (Bad bad) {
      tally.faults.add(new Fault(bad.number == null ? BAD_CONDITION : BAD_NUMBER, at.file, at.line,
          bad.number == null ? at.text : bad.number));
      return false;
    }
  }

  private boolean free(Word w) {
    return w.kind() == 0 && !RESERVED.contains(w.s);
  }

  private void define(List<Word> rest, Fault at) {
    Name name = parse(rest);
    if (name == null) {
      fault(BAD_ORDER, at);
    } else if (names.containsKey(name.s)) {
      if (!names.get(name.s).alike(name)) {
        tally.faults.add(new Fault(DIFFERENT, at.file, at.line, name.s));
      }
    } else if (names.size() >= 8) {
      tally.faults.add(new Fault(FULL, at.file, at.line, name.s));
    } else {
      names.put(name.s, name);
    }
  }

  /** The NAME that an ORDER defines; null, if it is bad. */
  private Name parse(List<Word> rest) {
    if (rest.isEmpty() || !free(rest.get(0))) {
      return null;
    }
    Name name = new Name();
    name.s = rest.get(0).s;
    name.place = rest.get(0).chain.get(0);
    int body = 1;
    if (rest.size() > 1 && rest.get(1).s.equals("(") && !rest.get(1).blank) {
      int close = spellings(rest).indexOf(")");
      if (close < 0) {
        return null;
      }
      name.parameters = new ArrayList<>();
      List<Word> list = rest.subList(2, close);
      for (int i = 0; i < list.size(); i++) {
        if (i % 2 == 1) {
          if (!list.get(i).s.equals(",") || i + 1 == list.size()) {
            return null;
          }
        } else if (list.get(i).s.equals("...")) {
          if (i + 1 != list.size()) {
            return null;
          }
          name.more = true;
          name.parameters.add("MORE");
        } else if (!free(list.get(i)) || name.parameters.contains(list.get(i).s)) {
          return null;
        } else {
          name.parameters.add(list.get(i).s);
        }
      }
      if (name.parameters.size() - (name.more ? 1 : 0) > 4) {
        return null;
      }
      body = close + 1;
    }
    name.body = rest.subList(body, rest.size());
    List<String> words = spellings(name.body);
    int n = words.size();
    if (n > 20 || n > 0 && (words.get(0).equals("##") || words.get(n - 1).equals("##"))
        || Collections.indexOfSubList(words, List.of("##", "##")) >= 0) {
      return null;
    }
    for (int i = 0; i < n && name.parameters != null; i++) {
      if (words.get(i).equals("#") && (i + 1 == n || !name.parameters.contains(words.get(i + 1)))) {
        return null;
      }
    }
    return name;
  }

  // ---- conditions

  static final class Bad extends RuntimeException {
    private static final long serialVersionUID = 1;
    final String number;

    Bad(String number) {
      super(null, null, false, false);
      this.number = number;
    }
  }

  static final String[][] RANKS = {{"||"}, {"&&"}, {"|"}, {"^"}, {"&"}, {"==", "!="}, {"<", "<=", ">", ">="},
      {"<<", ">>"}, {"+", "-"}, {"*", "/", "%"}};

  /** Reads a condition, descending by ranks; null is NO VALUE. */
  static final class Parser {
    final List<Word> row;
    int at;

    Parser(List<Word> row) {
      this.row = row;
    }

    String next() {
      return at < row.size() ? row.get(at).s : "";
    }

    void take(String s) {
      if (!next().equals(s)) {
        throw new Bad(null);
      }
      at++;
    }

    Integer whole() {
      Integer v = choice();
      if (at < row.size()) {
        throw new Bad(null);
      }
      return v;
    }

    Integer choice() {
      Integer first = rank(0);
      if (!next().equals("?")) {
        return first;
      }
      at++;
      Integer second = choice();
      take(":");
      Integer third = choice();
      return first == null ? null : first != 0 ? second : third;
    }

    Integer rank(int rank) {
      if (rank == RANKS.length) {
        return ahead();
      }
      Integer left = rank(rank + 1);
      while (Arrays.asList(RANKS[rank]).contains(next())) {
        String s = next();
        at++;
        left = both(s, left, rank(rank + 1));
      }
      return left;
    }

    Integer both(String s, Integer a, Integer b) {
      if (s.equals("&&") && a != null && a == 0) {
        return 0;
      }
      if (s.equals("||") && a != null && a != 0) {
        return 1;
      }
      if (a == null || b == null || b == 0 && (s.equals("/") || s.equals("%"))) {
        return null;
      }
      switch (s) {
        case "||":
        case "&&":
          return b != 0 ? 1 : 0;
        case "|":
          return a | b;
        case "^":
          return a ^ b;
        case "&":
          return a & b;
        case "==":
          return a.equals(b) ? 1 : 0;
        case "!=":
          return a.equals(b) ? 0 : 1;
        case "<":
          return a < b ? 1 : 0;
        case "<=":
          return a <= b ? 1 : 0;
        case ">":
          return a > b ? 1 : 0;
        case ">=":
          return a >= b ? 1 : 0;
        case "<<":
          return a << (b & 31);
        case ">>":
          return a >> (b & 31);
        case "+":
          return a + b;
        case "-":
          return a - b;
        case "*":
          return a * b;
        case "/":
          return (int) ((long) a / b);
        default:
          return (int) ((long) a % b);
      }
    }

    Integer ahead() {
      String s = next();
      if (s.equals("!") || s.equals("-") || s.equals("+") || s.equals("~")) {
        at++;
        Integer v = ahead();
        return v == null ? null : s.equals("!") ? (Integer) (v == 0 ? 1 : 0) : s.equals("-") ? (Integer) (-v)
            : s.equals("~") ? (Integer) (~v) : v;
      }
      if (s.equals("(")) {
        at++;
        Integer v = choice();
        take(")");
        return v;
      }
      if (at >= row.size() || row.get(at).kind() > 1) {
        throw new Bad(null);
      }
      at++;
      if (kindOf(s) == 0) {
        return 0;
      }
      if (value(s) == null) {
        throw new Bad(s);
      }
      return (int) (long) value(s);
    }
  }

  private int reckon(List<Word> rest, Tally into, Set<String> looked) {
    List<Word> row = new ArrayList<>();
    for (int i = 0; i < rest.size(); i++) {
      Word w = rest.get(i).copy();
      if (w.s.equals("defined")) {
        boolean brackets = i + 1 < rest.size() && rest.get(i + 1).s.equals("(");
        i += brackets ? 2 : 1;
        if (i >= rest.size() || rest.get(i).kind() != 0) {
          throw new Bad(null);
        }
        String name = rest.get(i).s;
        if (brackets) {
          i++;
          if (i >= rest.size() || !rest.get(i).s.equals(")")) {
            throw new Bad(null);
          }
        }
        looked.add(name);
        w.s = known(name) ? "1" : "0";
      }
      row.add(w);
    }
    Integer v = new Parser(new Expansion(row, into).finish()).whole();
    if (v == null) {
      throw new Bad(null);
    }
    return v;
  }

  // ---- what is asked of a RUN

  int ofRun(int what) {
    argument(what >= 0 && what <= 13);
    return totals[what];
  }

  int ofFile(int file, int what) {
    file(file);
    argument(what >= 0 && what <= 3);
    return what == 0 ? files.get(file).size() : what == 1 ? entered[file] : what == 2 ? once[file] ? 1 : 0
        : (int) out.stream().filter(w -> w.chain.get(0) / 10000 == file).count();
  }

  Word outAt(int k) {
    below(k, out.size());
    return out.get(k);
  }

  String outWord(int k) {
    return outAt(k).s;
  }

  int ofOut(int k, int what) {
    Word w = outAt(k);
    argument(what >= 0 && what <= 8);
    return new int[] {w.kind(), w.blank ? 1 : 0, w.isNew ? 1 : 0, w.chain.size(), w.hides.size(), w.file, w.line,
        w.s.length(), w.s.charAt(0)}[what];
  }

  String outLine(int n) {
    below(n, totals[1]);
    List<Word> row = new ArrayList<>();
    int line = -1;
    for (Word w : out) {
      line += w.isNew ? 1 : 0;
      if (line == n) {
        row.add(w);
      }
    }
    return textOut(row);
  }

  int chain(int k, int i) {
    Word w = outAt(k);
    below(i, w.chain.size());
    return w.chain.get(i);
  }

  boolean hides(int k, int piece) {
    Word w = outAt(k);
    return w.hides.contains(pieces(piece));
  }

  String trace(int k) {
    below(k, tally.trace.size());
    return tally.trace.get(k);
  }

  int ofError(int k, int what) {
    below(k, tally.faults.size());
    argument(what >= 0 && what <= 2);
    Fault f = tally.faults.get(k);
    return what == 0 ? f.kind : what == 1 ? f.file : f.line;
  }

  String errorText(int k) {
    below(k, tally.faults.size());
    return tally.faults.get(k).text;
  }

  Name nameAt(int i) {
    below(i, names.size());
    return new ArrayList<>(names.values()).get(i);
  }

  String name(int i) {
    return nameAt(i).s;
  }

  int ofName(int i, int what) {
    Name n = nameAt(i);
    argument(what >= 0 && what <= 4);
    return what == 0 ? n.parameters == null ? -1 : n.parameters.size() : what == 1 ? n.more ? 1 : 0
        : what == 2 ? n.body.size() : what == 3 ? n.place : Collections.frequency(tally.trace, n.s);
  }

  String body(int i) {
    return textOut(nameAt(i).body);
  }

  String lean(int i) {
    below(i, leans.size());
    return new ArrayList<>(leans).get(i);
  }

  String unused(int i) {
    below(i, unused.size());
    return new ArrayList<>(unused).get(i);
  }

  boolean isDefined(int piece) {
    return known(pieces(piece));
  }

  int reckon(int file, int line) {
    try {
      return reckon(row(file, line), new Tally(), new TreeSet<>());
    } catch (Bad bad) {
      throw new IllegalStateException();
    }
  }

  String would(int file, int line) {
    return textOut(new Expansion(row(file, line), new Tally()).finish());
  }

  int ofWould(int file, int line, int what) {
    List<Word> row = row(file, line);
    argument(what >= 0 && what <= 3);
    Tally t = new Tally();
    int size = new Expansion(row, t).finish().size();
    return new int[] {size, t.trace.size(), t.faults.size(), t.count}[what];
  }

  // ---- the desk

  int load(int file, int line) {
    desk = new Expansion(row(file, line), new Tally());
    touched = null;
    lost = false;
    deskFile = file;
    deskLine = line;
    return desk.levels.peek().row.size();
  }

  int step() {
    if (lost) {
      return -8;
    }
    touched = null;
    return desk.look();
  }

  int finish() {
    if (lost) {
      return -8;
    }
    touched = null;
    int n = 0;
    while (desk.look() != 0) {
      n++;
    }
    return n;
  }

  int over(int way) {
    state(desk.open() == 0);
    if (lost) {
      return -8;
    }
    Level level = desk.levels.peek();
    int at = way > 0 ? level.point : level.point - 1;
    touched = at >= 0 && at < level.row.size() ? level.row.get(at) : null;
    if (touched == null) {
      return -9;
    }
    level.point += way;
    return touched.kind();
  }

  int ahead() {
    return over(1);
  }

  int back() {
    return over(-1);
  }

  int touchedAt() {
    List<Word> row = desk.levels.peek().row;
    for (int i = 0; i < row.size(); i++) {
      if (row.get(i) == touched) {
        return i;
      }
    }
    return -1;
  }

  int drop() {
    state(desk.open() == 0);
    if (lost) {
      return -8;
    }
    int at = touchedAt();
    if (at < 0) {
      return -7;
    }
    Level level = desk.levels.peek();
    level.row.remove(at);
    level.point -= at < level.point ? 1 : 0;
    touched = null;
    return level.row.size();
  }

  int put(int piece) {
    List<Word> row = read(pieces(piece), null, deskFile, deskLine, false);
    Level level = desk.levels.peek();
    state(desk.open() == 0 && level.row.size() < 100);
    if (lost) {
      return -8;
    }
    level.row.addAll(level.point, row);
    level.point += row.size();
    touched = row.isEmpty() ? touched : null;
    return row.size();
  }

  int swap(int piece) {
    Word w = onlyWord(piece);
    state(desk.open() == 0);
    if (lost) {
      return -8;
    }
    int at = touchedAt();
    if (at < 0) {
      return -7;
    }
    w.file = deskFile;
    w.line = deskLine;
    desk.levels.peek().row.set(at, w);
    touched = w;
    return w.kind();
  }

  int tail(int piece) {
    List<Word> row = read(pieces(piece), null, deskFile, deskLine, false);
    Level level = desk.levels.peek();
    state(desk.open() == 0 && level.row.size() < 100);
    level.row.addAll(row);
    lost |= !row.isEmpty();
    return level.row.size();
  }

  int cursor(int k) {
    below(k, desk.ahead().size() + desk.behind().size() + 1);
    state(desk.open() == 0);
    desk.levels.peek().point = k;
    boolean was = lost;
    lost = false;
    touched = null;
    return was ? 1 : 0;
  }

  String desk() {
    return textOut(desk.ahead()) + "@" + textOut(desk.behind());
  }

  int ofDesk(int what) {
    argument(what >= 0 && what <= 7);
    List<Fault> faults = desk.tally.faults;
    return new int[] {desk.ahead().size() + desk.behind().size(), desk.ahead().size(), desk.open(),
        desk.tally.trace.size(), faults.size(), faults.isEmpty() ? -1 : faults.get(faults.size() - 1).kind,
        desk.tally.count, lost ? 1 : 0}[what];
  }

  int knock() {
    return ++refused;
  }

  boolean isSound() {
    return true; // the document's rules leave no other way; Wordbefore reckons it
  }

  private long d;

  private void add(long v) {
    d = d * 31 + v;
  }

  long digest() {
    d = 5405;
    for (int i = 0; i <= 13; i++) {
      add(ofRun(i));
    }
    for (int file = 0; file < 4; file++) {
      for (int i = 0; i <= 3; i++) {
        add(ofFile(file, i));
      }
      for (int line = 0; line < files.get(file).size(); line++) {
        add(words(file, line));
        add(plain(file, line).length());
      }
    }
    for (int k = 0; k < out.size(); k++) {
      for (int i = 0; i <= 8; i++) {
        add(ofOut(k, i));
      }
      for (int place : out.get(k).chain) {
        add(place);
      }
    }
    for (int k = 0; k < tally.faults.size(); k++) {
      for (int i = 0; i <= 2; i++) {
        add(ofError(k, i));
      }
      add(errorText(k).length());
    }
    for (int k = 0; k < names.size(); k++) {
      add(name(k).length());
      for (int i = 0; i <= 4; i++) {
        add(ofName(k, i));
      }
      add(body(k).length());
    }
    for (String s : leans) {
      add(s.length());
    }
    for (String s : unused) {
      add(s.length());
    }
    for (int i = 0; i <= 7; i++) {
      add(ofDesk(i));
    }
    add(desk().length());
    add(refused);
    add(isSound() ? 1 : 0);
    return d;
  }

  // ---- random runs

  interface Asked {
    Object ask();
  }

  static String answer(Asked asked) {
    try {
      return String.valueOf(asked.ask());
    } catch (IndexOutOfBoundsException e) {
      return e.getClass() == IndexOutOfBoundsException.class ? "index" : "MACHINE " + e;
    } catch (IllegalArgumentException e) {
      return e.getClass() == IllegalArgumentException.class ? "argument" : "MACHINE " + e;
    } catch (IllegalStateException e) {
      return "state";
    } catch (RuntimeException e) {
      return "MACHINE " + e;
    }
  }

  static int wrong = 0;

  final Random random;
  final Wordbefore real = new Wordbefore();
  final List<String> calls = new ArrayList<>();

  ModelTest(long seed) {
    random = new Random(seed);
    for (int i = 0; i < 4; i++) {
      files.add(new ArrayList<>());
    }
    totals[13] = -1;
  }

  private boolean same(String call, Asked ofReal, Asked ofModel) {
    calls.add(call);
    String got = answer(ofReal);
    String due;
    try {
      due = answer(ofModel);
    } catch (TooLong tooLong) {
      return false;
    }
    if (!got.equals(due)) {
      wrong++;
      System.out.println(String.join("; ", calls) + " answered " + brief(got) + ", the model says " + brief(due));
      return false;
    }
    return true;
  }

  private static String brief(String s) {
    return s.length() < 400 ? s : s.substring(0, 400) + ".. (" + s.length() + " signs)";
  }

  private int any(int n) {
    return random.nextInt(n);
  }

  private int near(int n) {
    return any(12) == 0 ? any(n + 4) - 2 : any(Math.max(1, n));
  }

  private int aPiece() {
    return any(60) == 0 ? (any(2) == 0 ? -1 : 96) : any(96);
  }

  private static final int[][] SHAPES = {
      {60, 72, 82, 0, 0}, {60, 72, 83, 1, 81}, {60, 72, 9, 0, 0}, {60, 72, 81, 0, 0}, {60, 73, 80, 0, 0},
      {60, 73, 95, 0, 0}, {60, 74, 84, 0, 0}, {60, 74, 93, 0, 0}, {60, 74, 9, 57, 15}, {60, 2, 1, 3, 0},
      {60, 3, 1, 2, 0}, {60, 3, 1, 14, 0}, {60, 4, 1, 75, 0}, {60, 2, 0, 0, 0}, {60, 2, 1, 90, 91},
      {60, 72, 2, 57, 9}, {60, 73, 9, 57, 10}, {60, 72, 92, 0, 0}, {60, 6, 28, 29, 85}, {60, 7, 28, 32, 29},
      {60, 72, 85, 85, 85}, {60, 72, 95, 1, 9}, {60, 8, 28, 32, 29}, {60, 4, 57, 3, 0}, {60, 2, 57, 3, 0},
      {75, 1, 76, 0, 0}, {77, 1, 78, 0, 0}, {79, 1, 90, 29, 0}, {90, 90, 90, 90, 90}, {90, 91, 1, 85, 0},
      {85, 50, 12, 1, 13}, {92, 28, 2, 29, 0}, {90, 85, 0, 0, 0}, {29, 29, 29, 29, 29}, {7, 28, 56, 30, 51},
      {62, 18, 86, 18, 0}, {62, 89, 2, 0, 0}, {63, 2, 0, 0, 0}, {64, 3, 0, 0, 0}, {65, 89, 3, 87, 18},
      {66, 0, 0, 0, 0}, {67, 0, 0, 0, 0}, {68, 18, 0, 0, 0}, {68, 19, 0, 0, 0}, {68, 20, 0, 0, 0}, {68, 13, 0, 0, 0},
      {69, 0, 0, 0, 0}, {70, 22, 0, 0, 0}, {70, 22, 1, 21, 0}, {70, 14, 1, 12, 0}, {71, 85, 0, 0, 0},
      {61, 2, 0, 0, 0}, {61, 6, 0, 0, 0}, {33, 0, 0, 0, 0}, {2, 54, 0, 0, 0}, {52, 1, 53, 2, 0}, {62, 2, 35, 75, 0},
      {62, 19, 48, 18, 49}, {60, 72, 6, 83, 0}, {60, 73, 81, 57, 10}, {60, 74, 9, 30, 93}, {8, 28, 29, 8, 28},
      {6, 28, 90, 91, 29}, {60, 5, 28, 9, 30}, {10, 30, 11, 29, 82}, {78, 78, 0, 0, 0}, {8, 28, 8, 28, 79}};

  private int[] aLine() {
    int[] line = new int[5];
    if (any(3) > 0) {
      line = SHAPES[any(SHAPES.length)].clone();
      if (any(4) == 0) {
        line[any(5)] = aPiece();
      }
    } else {
      for (int i = 0; i < 5; i++) {
        line[i] = any(3) == 0 ? 0 : aPiece();
      }
    }
    return line;
  }

  private boolean type(int file) {
    int[] p = aLine();
    boolean more = any(3) == 0;
    String call = (more ? "more(" : "line(") + file + ", " + p[0] + ", " + p[1] + ", " + p[2] + ", " + p[3] + ", "
        + p[4] + ")";
    return more
        ? same(call, () -> real.more(file, p[0], p[1], p[2], p[3], p[4]), () -> more(file, p[0], p[1], p[2], p[3], p[4]))
        : same(call, () -> real.line(file, p[0], p[1], p[2], p[3], p[4]),
            () -> line(file, p[0], p[1], p[2], p[3], p[4]));
  }

  private boolean runAndAsk() {
    int file = any(20) == 0 ? near(4) : any(2) * any(4);
    boolean good = same("run(" + file + ")", () -> real.run(file), () -> run(file));
    return good && same("digest()", () -> real.digest(), () -> digest());
  }

  private boolean onDesk() {
    int piece = aPiece();
    int k = near(desk.ahead().size() + desk.behind().size() + 1);
    switch (any(20)) {
      case 0:
      case 1:
      case 2:
      case 3:
      case 4:
      case 5:
        return same("step()", () -> real.step(), () -> step());
      case 6:
        return same("finish()", () -> real.finish(), () -> finish());
      case 7:
      case 8:
        return same("ahead()", () -> real.ahead(), () -> ahead());
      case 9:
      case 10:
        return same("back()", () -> real.back(), () -> back());
      case 11:
        return same("drop()", () -> real.drop(), () -> drop());
      case 12:
      case 13:
        return same("put(" + piece + ")", () -> real.put(piece), () -> put(piece));
      case 14:
        return same("swap(" + piece + ")", () -> real.swap(piece), () -> swap(piece));
      case 15:
        return same("tail(" + piece + ")", () -> real.tail(piece), () -> tail(piece));
      case 16:
        return same("cursor(" + k + ")", () -> real.cursor(k), () -> cursor(k));
      case 17:
        return same("desk()", () -> real.desk(), () -> desk());
      default:
        int what = near(8);
        return same("ofDesk(" + what + ")", () -> real.ofDesk(what), () -> ofDesk(what))
            && same("desk()", () -> real.desk(), () -> desk());
    }
  }

  private boolean askOfLine() {
    int file = near(4);
    int line = near(file >= 0 && file < 4 ? files.get(file).size() : 1);
    int k = near(6);
    int what = near(4);
    String at = "(" + file + ", " + line + ")";
    switch (any(14)) {
      case 0:
        return same("strike" + at, () -> real.strike(file, line), () -> strike(file, line));
      case 1:
        return same("text" + at, () -> real.text(file, line), () -> text(file, line));
      case 2:
        return same("words" + at, () -> real.words(file, line), () -> words(file, line));
      case 3:
        return same("word" + at + k, () -> real.word(file, line, k), () -> word(file, line, k));
      case 4:
        return same("ofWord" + at + k + " " + what, () -> real.ofWord(file, line, k, what),
            () -> ofWord(file, line, k, what));
      case 5:
        return same("number" + at + k, () -> real.number(file, line, k), () -> number(file, line, k));
      case 6:
        return same("plain" + at, () -> real.plain(file, line), () -> plain(file, line));
      case 7:
        return same("quoted" + at, () -> real.quoted(file, line), () -> quoted(file, line));
      case 8:
        return same("again" + at + k, () -> real.again(file, line, k), () -> again(file, line, k));
      case 9:
        return same("reckon" + at, () -> real.reckon(file, line), () -> reckon(file, line));
      case 10:
        return same("would" + at, () -> real.would(file, line), () -> would(file, line));
      case 11:
        return same("ofWould" + at + what, () -> real.ofWould(file, line, what), () -> ofWould(file, line, what));
      default:
        return same("load" + at, () -> real.load(file, line), () -> load(file, line));
    }
  }

  private boolean askOfRun() {
    int k = near(out.size());
    int e = near(tally.faults.size());
    int n = near(names.size());
    int i = near(9);
    int piece = aPiece();
    switch (any(18)) {
      case 0:
        return same("ofRun(" + k + ")", () -> real.ofRun(k), () -> ofRun(k));
      case 1:
        return same("ofFile(" + n + ", " + e + ")", () -> real.ofFile(n, e), () -> ofFile(n, e));
      case 2:
        return same("outWord(" + k + ")", () -> real.outWord(k), () -> outWord(k));
      case 3:
      case 4:
        return same("ofOut(" + k + ", " + i + ")", () -> real.ofOut(k, i), () -> ofOut(k, i));
      case 5:
        return same("outLine(" + n + ")", () -> real.outLine(n), () -> outLine(n));
      case 6:
        return same("chain(" + k + ", " + i + ")", () -> real.chain(k, i), () -> chain(k, i));
      case 7:
        return same("hides(" + k + ", " + piece + ")", () -> real.hides(k, piece), () -> hides(k, piece));
      case 8:
        return same("trace(" + k + ")", () -> real.trace(k), () -> trace(k));
      case 9:
        return same("ofError(" + e + ", " + n + ")", () -> real.ofError(e, n), () -> ofError(e, n));
      case 10:
      case 11:
        return same("errorText(" + e + ")", () -> real.errorText(e), () -> errorText(e));
      case 12:
        return same("name(" + n + ")", () -> real.name(n), () -> name(n));
      case 13:
        return same("ofName(" + n + ", " + i + ")", () -> real.ofName(n, i), () -> ofName(n, i));
      case 14:
        return same("body(" + n + ")", () -> real.body(n), () -> body(n));
      case 15:
        return same("lean(" + i + ")", () -> real.lean(i), () -> lean(i));
      case 16:
        return same("unused(" + n + ")", () -> real.unused(n), () -> unused(n));
      default:
        return same("isDefined(" + piece + ")", () -> real.isDefined(piece), () -> isDefined(piece));
    }
  }

  private boolean askOther() {
    int a = aPiece();
    int b = aPiece();
    int file = near(4);
    switch (any(8)) {
      case 0:
        return same("empty(" + file + ")", () -> real.empty(file), () -> empty(file));
      case 1:
        return same("piece(" + a + ")", () -> real.piece(a), () -> piece(a));
      case 2:
        return same("isApart(" + a + ", " + b + ")", () -> real.isApart(a, b), () -> isApart(a, b));
      case 3:
        return same("paste(" + a + ", " + b + ")", () -> real.paste(a, b), () -> paste(a, b));
      case 4:
        return same("knock()", () -> real.knock(), () -> knock());
      case 5:
        return same("isSound()", () -> real.isSound(), () -> isSound());
      default:
        return same("digest()", () -> real.digest(), () -> digest());
    }
  }

  // ---- texts that hang together

  private static final int[] TOKENS = {2, 3, 4, 5, 6, 7, 8, 9, 10, 9, 10, 15, 12, 13, 14, 18, 30, 34, 57, 57, 35, 56, 51,
      50, 81, 80, 82, 84, 93, 75, 76, 28, 29, 31, 36, 42, 85, 94, 95, 83, 55, 1, 54};
  private static final int[] NAMES = {2, 3, 4, 5, 6, 7, 8, 9, 10, 11};

  private void tokens(List<Integer> into, int most) {
    int n = any(most + 1);
    for (int i = 0; i < n; i++) {
      into.add(TOKENS[any(any(3) == 0 ? TOKENS.length : 15)]);
      if (any(3) > 0) {
        into.add(1);
      }
    }
  }

  /** A call, maybe with calls in its arguments. */
  private void aCall(List<Integer> into, int depth) {
    int arguments = any(9) == 0 ? any(5) : -1;
    int name = NAMES[any(8) == 0 ? any(NAMES.length) : 4 + any(3)];
    into.add(name);
    into.add(28);
    int n = arguments >= 0 ? arguments : name == 6 ? 1 : name == 7 ? 2 : any(4);
    for (int i = 0; i < n; i++) {
      if (i > 0) {
        into.add(30);
      }
      if (depth > 0 && any(3) > 0) {
        aCall(into, depth - 1);
      } else if (any(4) > 0) {
        into.add(TOKENS[any(16)]);
      }
    }
    if (any(15) > 0) {
      into.add(29);
    }
  }

  private void aDefine(List<Integer> into) {
    into.add(60);
    switch (any(6)) {
      case 0:
        into.add(72);
        break;
      case 1:
        into.add(73);
        break;
      case 2:
        into.add(74);
        break;
      case 3:
        into.add(NAMES[any(NAMES.length)]);
        into.add(28);
        int n = any(5);
        for (int i = 0; i < n; i++) {
          into.add(i == n - 1 && any(2) == 0 ? 32 : NAMES[9 - i]);
          if (i + 1 < n) {
            into.add(30);
          }
        }
        into.add(29);
        break;
      default:
        into.add(NAMES[any(any(2) == 0 ? 4 : NAMES.length)]);
        into.add(1);
        break;
    }
    if (any(4) == 0) {
      aCall(into, 1);
    } else if (any(3) == 0) {
      int name = NAMES[any(4)];
      int n = any(12);
      for (int i = 0; i < n; i++) {
        into.add(any(4) == 0 ? NAMES[any(10)] : name);
        into.add(1);
      }
    } else if (any(3) == 0) {
      int n = any(9);
      for (int i = 0; i < n; i++) {
        into.add(any(2) == 0 ? 84 : 94);
        into.add(any(3) == 0 ? 57 : 1);
      }
      into.add(15);
    } else {
      tokens(into, 6);
    }
  }

  private void aCondition(List<Integer> into, int depth) {
    int[] operands = {17, 18, 19, 20, 21, 23, 24, 25, 2, 14, 26, 27, 51};
    int[] operators = {35, 36, 37, 38, 39, 40, 41, 44, 45, 46, 58, 59, 86, 87, 88};
    int n = 1 + any(3);
    for (int i = 0; i < n; i++) {
      if (i > 0) {
        into.add(any(30) == 0 ? TOKENS[any(TOKENS.length)] : operators[any(operators.length)]);
      }
      if (any(4) == 0) {
        into.add(new int[] {43, 36, 35, 47, 89}[any(5)]);
      }
      if (depth > 0 && any(4) == 0) {
        into.add(28);
        aCondition(into, depth - 1);
        into.add(29);
      } else if (any(8) == 0) {
        into.add(89);
        into.add(NAMES[any(NAMES.length)]);
      } else if (any(8) == 0) {
        aCall(into, 0);
      } else {
        into.add(operands[any(any(6) == 0 ? operands.length : 9)]);
      }
    }
    if (depth > 0 && any(3) == 0) {
      into.add(48);
      aCondition(into, depth - 1);
      into.add(49);
      aCondition(into, depth - 1);
    }
  }

  private List<Integer> aText(int way) {
    List<Integer> into = new ArrayList<>();
    switch (way) {
      case 0:
        aDefine(into);
        break;
      case 1:
        aCall(into, any(6));
        if (any(2) == 0) {
          aCall(into, any(3));
        }
        break;
      case 2:
        tokens(into, 12);
        break;
      case 3:
        into.add(any(3) == 0 ? 65 : 62);
        aCondition(into, 2);
        break;
      case 4:
        into.add(new int[] {66, 67, 67, 69, 33, 63, 64, 61}[any(8)]);
        into.add(NAMES[any(NAMES.length)]);
        break;
      case 5:
        into.add(any(2) == 0 ? 68 : 70);
        into.add(new int[] {17, 18, 19, 20, 2, 14, 22, 21, 13, 26, 27, 51}[any(any(2) == 0 ? 4 : 12)]);
        if (any(3) == 0) {
          into.add(1);
          into.add(new int[] {17, 18, 12, 20, 2, 26, 24}[any(7)]);
        }
        break;
      case 6:
        into.add(2 + any(9));
        break;
      default:
        for (int i = 0; i < 12; i++) {
          into.add(90);
        }
        into.add(18);
        for (int i = 0; i < 9; i++) {
          into.add(29);
        }
        break;
    }
    if (any(8) == 0) {
      into.add(54);
    }
    return into;
  }

  private boolean typeText(int file, List<Integer> text) {
    boolean good = true;
    for (int i = 0; i < text.size() && good && i < 50; i += 5) {
      int[] p = new int[5];
      for (int k = 0; k < 5; k++) {
        p[k] = i + k < text.size() ? text.get(i + k) : 0;
      }
      String to = file + ", " + p[0] + ", " + p[1] + ", " + p[2] + ", " + p[3] + ", " + p[4] + ")";
      good = i == 0
          ? same("line(" + to, () -> real.line(file, p[0], p[1], p[2], p[3], p[4]),
              () -> line(file, p[0], p[1], p[2], p[3], p[4]))
          : same("more(" + to, () -> real.more(file, p[0], p[1], p[2], p[3], p[4]),
              () -> more(file, p[0], p[1], p[2], p[3], p[4]));
    }
    return good;
  }

  /** Types a text, on as many LINES as it needs. */
  private boolean typeAll(int file, String text) {
    List<List<Integer>> lines = new ArrayList<>();
    lines.add(new ArrayList<>());
    int used = 0;
    for (int at = 0; at < text.length();) {
      int best = 0;
      for (int piece = 1; piece < PIECES.length; piece++) {
        if (PIECES[piece].length() > PIECES[best].length() && text.startsWith(PIECES[piece], at)) {
          best = piece;
        }
      }
      int length = PIECES[best].length();
      if (used + length > 47) {
        lines.get(lines.size() - 1).add(54);
        lines.add(new ArrayList<>());
        used = 0;
      }
      lines.get(lines.size() - 1).add(best);
      used += length;
      at += length;
    }
    boolean good = true;
    for (List<Integer> line : lines) {
      good = good && typeText(file, line);
    }
    return good;
  }

  private String oneOf(String... all) {
    return all[any(all.length)];
  }

  /** So many words, with the same between all neighbours. */
  private String manyOf(String word, int n) {
    String between = oneOf(" ", " ", " ", "##", " ## ", "+");
    StringBuilder b = new StringBuilder(word);
    int most = between.equals(" ") ? n : Math.min(n, 9);
    for (int i = 1; i < most; i++) {
      b.append(any(12) == 0 ? " " : between).append(word);
    }
    return b.toString();
  }

  private String nested(int depth) {
    if (depth == 0) {
      return oneOf("1", "x y", "'it''s'", "C", "_", "0", "");
    }
    String name = oneOf("G", "G", "G", "G", "G", "G", "G", "H", "A", "B");
    String inner = nested(depth - 1);
    switch (name) {
      case "G":
        return "G(" + inner + "," + (any(6) == 0 ? nested(depth - 1) : "") + ")";
      case "H":
        return "H(" + inner + oneOf("", ",", ",x,y") + ")";
      default:
        return name + "(" + inner + ")";
    }
  }

  /** TEXTS and NAMES that become long by being QUOTED and PASTED again and again. */
  private boolean growTexts() {
    boolean good = same("empty(0)", () -> real.empty(0), () -> empty(0));
    String quoted = oneOf("F(", "F(", "F(", "F(", "F(", "F(", "A(", "(");
    good = good && typeAll(0, oneOf("#define F(x) #x", "#define F(x) #x", "#define F(...) #MORE",
        "#define F(x) #x##x", "#define F(x) x##x##x##x##x"));
    good = good && typeAll(0, "#define G(x, y) " + quoted + manyOf("x", 2 + any(16)) + ")" + oneOf("", "y"));
    if (any(2) == 0) {
      good = good && typeAll(0, oneOf("#define H(x, ...) " + manyOf("x", 1 + any(9)) + oneOf("", " MORE", "##MORE"),
          "#define H(x, ...) F(" + manyOf("x", 1 + any(9)) + ")MORE"));
    }
    if (any(2) == 0) {
      good = good && typeAll(0, oneOf("#define A(x) F(", "#define A(x) B(F(", "#define A(x) G(")
          + manyOf("x", 1 + any(6)) + oneOf(")", "))", ",)"));
      good = good && typeAll(0, oneOf("#define B(x) x + #x", "#define B(x) H(F(x),x)", "#define B(x) x ## x ## x"));
    }
    String call = nested(2 + any(6));
    int last = Math.min(files.get(0).size(), 9);
    good = good && typeAll(0, oneOf("", "", "", "", "", "", "", "#if ", "#include ")
        + (call.length() < 94 ? call : nested(2)));
    good = good && same("run(0)", () -> real.run(0), () -> run(0));
    for (int i = 0; i < 4 && good; i++) {
      int k = near(out.size());
      int e = near(tally.faults.size());
      good = same("ofOut(" + k + ", 7)", () -> real.ofOut(k, 7), () -> ofOut(k, 7))
          && same("ofOut(" + k + ", 0)", () -> real.ofOut(k, 0), () -> ofOut(k, 0))
          && same("ofOut(" + k + ", 8)", () -> real.ofOut(k, 8), () -> ofOut(k, 8))
          && (any(2) == 0 || same("outWord(" + k + ")", () -> real.outWord(k), () -> outWord(k)))
          && (any(2) == 0 || same("errorText(" + e + ")", () -> real.errorText(e), () -> errorText(e)));
    }
    return good && same("digest()", () -> real.digest(), () -> digest())
        && same("outLine(0)", () -> real.outLine(0), () -> outLine(0)) && growOnDesk(last);
  }

  /** Calls that PASTE words from left to right, in any order. */
  private String pasted(List<String> words) {
    if (words.size() < 2) {
      return words.isEmpty() ? "" : words.get(0);
    }
    int at = 1 + any(words.size() - 1);
    return "A(" + pasted(words.subList(0, at)) + "," + pasted(words.subList(at, words.size())) + ")";
  }

  /** A NUMBER with many "0" somewhere in it. */
  private String longNumber() {
    List<String> words = new ArrayList<>();
    String first = oneOf("0", "0", "0,x", "0,x", "0,xF", "0x", "0x", "0x0", "0x1F", "0,x1", "0b101", "1", "7", "x", "_", "");
    words.addAll(List.of(first.split(",")));
    words.add(oneOf("G(G(G(0)))", "G(G(G(0)))", "G(G(G(G(0))))", "G(G(0))", "G(0)", "B", "B", "G(A(B,0))", "G(G(G(1)))"));
    for (int i = any(4); i > 0; i--) {
      words.add(oneOf("0", "0", "1", "7", "12", "017", "3", "F", "A1", "0x", "x", "_", "9999999999", "B", "G(0)", "", ";", "'x'"));
    }
    return pasted(words);
  }

  /** NUMBERS that become long by being PASTED again and again; their VALUES are asked for. */
  private boolean growNumbers() {
    boolean good = same("empty(0)", () -> real.empty(0), () -> empty(0))
        && typeAll(0, "#define F(x)x##" + oneOf("x##x##x", "x##x##x##x##x##x##x##x", "x##x##x##x##x##x##x##x##x", "0##0##0##x"))
        && typeAll(0, "#define G(x)F(x)") && typeAll(0, "#define B G(G(G(0)))")
        && typeAll(0, "#define A(x,y)C(x,y)") && typeAll(0, "#define C(x,y)x##y");
    String order = oneOf("", "#if ", "#elif ", "#include ", "#line ", "#line 7 ");
    if (order.equals("#elif ")) {
      good = good && typeAll(0, "#if " + oneOf("0", "0", "0", "1", "B"));
    }
    int last = files.get(0).size();
    good = good && typeAll(0, order + longNumber()) && typeAll(0, oneOf("LINE", "LINE FILE", "1"))
        && same("run(0)", () -> real.run(0), () -> run(0));
    for (int i = 0; i < 3 && good; i++) {
      int k = i;
      good = same("errorText(" + k + ")", () -> real.errorText(k), () -> errorText(k))
          && same("ofError(" + k + ", 0)", () -> real.ofError(k, 0), () -> ofError(k, 0))
          && same("outWord(" + k + ")", () -> real.outWord(k), () -> outWord(k))
          && same("ofOut(" + k + ", 7)", () -> real.ofOut(k, 7), () -> ofOut(k, 7));
    }
    for (int i = 0; i < 3 && good; i++) {
      good = same("empty(1)", () -> real.empty(1), () -> empty(1)) && typeAll(1, longNumber())
          && same("reckon(1, 0)", () -> real.reckon(1, 0), () -> reckon(1, 0));
    }
    return good && same("reckon(0, " + last + ")", () -> real.reckon(0, last), () -> reckon(0, last))
        && same("digest()", () -> real.digest(), () -> digest());
  }

  private boolean growOnDesk(int line) {
    boolean good = same("would(0, " + line + ")", () -> real.would(0, line), () -> would(0, line))
        && same("ofWould(0, " + line + ", 2)", () -> real.ofWould(0, line, 2), () -> ofWould(0, line, 2))
        && same("reckon(0, " + line + ")", () -> real.reckon(0, line), () -> reckon(0, line))
        && same("load(0, " + line + ")", () -> real.load(0, line), () -> load(0, line));
    for (int i = 0; i < 3 && good; i++) {
      int name = any(3) == 0 ? 8 : 6;
      good = same("finish()", () -> real.finish(), () -> finish())
          && (any(2) == 0 || same("desk()", () -> real.desk(), () -> desk()))
          && same("digest()", () -> real.digest(), () -> digest())
          && same("cursor(0)", () -> real.cursor(0), () -> cursor(0))
          && same("put(" + name + ")", () -> real.put(name), () -> put(name))
          && same("put(28)", () -> real.put(28), () -> put(28))
          && same("tail(29)", () -> real.tail(29), () -> tail(29))
          && same("cursor(0)", () -> real.cursor(0), () -> cursor(0));
    }
    return good && same("desk()", () -> real.desk(), () -> desk());
  }

  private boolean typeManyNames() {
    boolean good = true;
    for (int i = 0; i < 20 && good; i++) {
      int file = i / 10;
      if (i % 10 == 0) {
        good = same("empty(" + file + ")", () -> real.empty(file), () -> empty(file));
      }
      List<Integer> text = i % 10 == 9 ? List.of(68, 18) : new ArrayList<>(List.of(any(9) == 0 ? 61 : 60));
      if (i % 10 < 9) {
        text.add(NAMES[any(NAMES.length)]);
        text.add(any(2) == 0 ? NAMES[any(NAMES.length)] : 0);
        text.add(any(2));
        text.add(any(3) == 0 ? 0 : NAMES[any(NAMES.length)]);
      }
      good = good && typeText(file, text);
    }
    return good;
  }

  private boolean typeFiles() {
    if (any(12) == 0) {
      return typeManyNames();
    }
    boolean good = true;
    int filesTyped = any(3) == 0 ? 4 : 1 + any(2);
    for (int file = 0; file < filesTyped && good; file++) {
      int f = file;
      good = same("empty(" + f + ")", () -> real.empty(f), () -> empty(f));
      int lines = 3 + any(8);
      int defines = any(lines);
      for (int i = 0; i < lines && good; i++) {
        int way = i < defines && any(10) > 0 ? 0 : any(4) > 0 ? 1 + any(6) / 4 : any(20) == 0 ? 7 : any(7);
        good = typeText(f, aText(way));
      }
    }
    return good;
  }

  private boolean askMuch() {
    boolean good = same("run", () -> real.run(0), () -> run(0)) && same("digest", () -> real.digest(), () -> digest());
    for (int i = 0; i < 10 && good; i++) {
      good = any(3) > 0 ? askOfRun() : askOfLine();
    }
    for (int n = 0; n < 2 && good; n++) {
      int line = any(5) == 0 ? near(files.get(0).size()) : files.get(0).size() - 1 - any(2);
      good = same("load(0, " + line + ")", () -> real.load(0, line), () -> load(0, line));
      for (int i = 0; i < 25 && good; i++) {
        good = same("step()", () -> real.step(), () -> step()) && (any(8) > 0 || onDesk())
            && (any(3) > 0 || same("desk()", () -> real.desk(), () -> desk()));
      }
    }
    for (int i = 0; i < 20 && good; i++) {
      good = onDesk();
    }
    good = good && same("finish()", () -> real.finish(), () -> finish());
    for (int i = 0; i < 4 && good; i++) {
      int k = i;
      good = same("outLine(" + k + ")", () -> real.outLine(k), () -> outLine(k))
          && same("errorText(" + k + ")", () -> real.errorText(k), () -> errorText(k))
          && same("would(0, " + k + ")", () -> real.would(0, k), () -> would(0, k))
          && same("reckon(0, " + k + ")", () -> real.reckon(0, k), () -> reckon(0, k))
          && same("quoted(0, " + k + ")", () -> real.quoted(0, k), () -> quoted(0, k));
    }
    return good && same("digest", () -> real.digest(), () -> digest());
  }

  private void play(boolean whole, boolean grows) {
    boolean good = same("digest()", () -> real.digest(), () -> digest());
    while (good && grows && calls.size() < 360) {
      good = any(2) == 0 ? growTexts() : growNumbers();
    }
    while (good && calls.size() < 512 && !whole) {
      int way = any(100);
      int file = any(30) == 0 ? near(4) : any(2) * any(4);
      good = way < 25 ? type(file) : way < 35 ? runAndAsk() : way < 62 ? onDesk() : way < 82 ? askOfLine()
          : way < 96 ? askOfRun() : askOther();
    }
    while (good && calls.size() < 360) {
      good = typeFiles() && askMuch();
    }
  }

  public static void main(String[] args) {
    int runs = args.length > 0 ? Integer.parseInt(args[0]) : 300;
    long seed = args.length > 1 ? Long.parseLong(args[1]) : 1;
    for (int i = 0; i < runs && wrong < 5; i++) {
      new ModelTest(seed + i).play(i % 4 > 0, i % 10 == 9);
    }
    if (wrong > 0) {
      System.exit(1);
    }
  }
}
