import java.util.Arrays;

/** Macros over texts: typed FILES, RUNS of them, and a desk on which a row of WORDS is expanded look by look. */
public final class Wordbefore {

  private static final int NONE = -1;
  /** Far above what any row, looked at word by word, can need. */
  private static final int MANY = 1000000;

  private static final int FILES = 4;
  private static final int LINES = 10;
  private static final int COLUMNS = 48;
  private static final int PIECES = 96;
  private static final int PUT_PLACE = 99999;
  private static final int DESK_LIMIT = 100;
  private static final int MOST_OPEN = 6;
  private static final int IS_LOST = -8;
  private static final int NONE_TOUCHED = -7;
  private static final int NO_WORD_THERE = -9;

  private static final int NAME = 0;
  private static final int NUMBER = 1;
  private static final int TEXT = 2;
  private static final int SIGN = 3;

  private static final int LOOK_NOTHING = 0;
  private static final int LOOK_OVER = 1;
  private static final int LOOK_BUILT_IN = 2;
  private static final int LOOK_PLAIN = 3;
  private static final int LOOK_OPENS = 4;
  private static final int LOOK_CLOSES = 5;

  private static final int TOLD_ERROR = 0;
  private static final int BAD_ORDER = 1;
  private static final int DIFFERENT = 2;
  private static final int FULL = 3;
  private static final int STRAY = 4;
  private static final int OPEN_IF = 5;
  private static final int DEEP = 6;
  private static final int BAD_CONDITION = 7;
  private static final int BAD_NUMBER = 8;
  private static final int UNCLOSED = 9;
  private static final int MISFIT = 10;
  private static final int NESTED = 11;
  private static final int CUT = 12;
  private static final int SPENT = 13;
  private static final int NO_WORD = 14;

  private final Texts texts = new Texts();
  private final Typing typing = new Typing();
  private final Names names = new Names(texts);
  private final Incoming incoming = new Incoming(texts, names);
  private final Condition condition = new Condition(texts, names);
  private final Runner runner = new Runner(texts, typing, names, condition, new Expander(texts, names, incoming));
  private final Expander onDesk = new Expander(texts, names, incoming);
  /** For would(), ofWould(), reckon() and isSound(), which change nothing else. */
  private final Expander aside = new Expander(texts, names, incoming);
  private final Copies copies = new Copies(texts, names, incoming);
  private final Row read = new Row(16);
  private final Row readAgain = new Row(16);
  private final StringBuilder out = new StringBuilder();

  private int touched = NONE;
  private boolean lost;
  private int loadedFile;
  private int loadedLine;
  private int refused;
  /** How many spellings the last RUN and the DESK hold; those behind were made for one call. */
  private int held;
  private int heldByRun;

  public Wordbefore() {
  }

  // ---- typing

  public int line(int file, int a, int b, int c, int d, int e)
      throws IndexOutOfBoundsException, IllegalArgumentException, IllegalStateException {
    checkFile(file);
    checkPieces(a, b, c, d, e);
    if (typing.signsOf(a, b, c, d, e) > COLUMNS) {
      throw new IllegalArgumentException("a LINE has at most 48 signs");
    }
    if (typing.lines(file) >= LINES) {
      throw new IllegalStateException("a FILE has at most 10 LINES");
    }
    int last = typing.addLine(file);
    typeAll(file, last, a, b, c, d, e);
    return typing.lines(file);
  }

  public int more(int file, int a, int b, int c, int d, int e)
      throws IndexOutOfBoundsException, IllegalArgumentException, IllegalStateException {
    checkFile(file);
    checkPieces(a, b, c, d, e);
    int last = typing.lines(file) - 1;
    if (last < 0) {
      throw new IllegalStateException("no LINE");
    }
    if (typing.length(file, last) + typing.signsOf(a, b, c, d, e) > COLUMNS) {
      throw new IllegalStateException("a LINE has at most 48 signs");
    }
    typeAll(file, last, a, b, c, d, e);
    return typing.length(file, last);
  }

  private void typeAll(int file, int line, int a, int b, int c, int d, int e) {
    typing.type(file, line, a);
    typing.type(file, line, b);
    typing.type(file, line, c);
    typing.type(file, line, d);
    typing.type(file, line, e);
  }

  public int strike(int file, int line) throws IndexOutOfBoundsException {
    checkLine(file, line);
    return typing.takeOut(file, line);
  }

  public int empty(int file) throws IndexOutOfBoundsException {
    checkFile(file);
    return typing.takeAll(file);
  }

  private void checkFile(int file) {
    if (file < 0 || file >= FILES) {
      throw new IndexOutOfBoundsException("no such FILE");
    }
  }

  private void checkLine(int file, int line) {
    checkFile(file);
    if (line < 0 || line >= typing.lines(file)) {
      throw new IndexOutOfBoundsException("no such LINE");
    }
  }

  private void checkPiece(int piece) {
    if (piece < 0 || piece >= PIECES) {
      throw new IllegalArgumentException("no such PIECE");
    }
  }

  private void checkPieces(int a, int b, int c, int d, int e) {
    checkPiece(a);
    checkPiece(b);
    checkPiece(c);
    checkPiece(d);
    checkPiece(e);
  }

  private void checkWhat(int what, int last) {
    if (what < 0 || what > last) {
      throw new IllegalArgumentException("no such what");
    }
  }

  private void checkBelow(int k, int size) {
    if (k < 0 || k >= size) {
      throw new IndexOutOfBoundsException("no such number");
    }
  }

  // ---- reading

  public String piece(int piece) throws IllegalArgumentException {
    checkPiece(piece);
    out.setLength(0);
    typing.spellPiece(piece, out);
    return out.toString();
  }

  public boolean isApart(int first, int second) throws IllegalArgumentException {
    forget();
    int one = onlyWord(first);
    int other = onlyWord(second);
    return texts.apart(one, other);
  }

  public int paste(int first, int second) throws IllegalArgumentException {
    forget();
    int one = onlyWord(first);
    int other = onlyWord(second);
    return texts.isOneWord(one, other) ? texts.kind(one) : NONE;
  }

  /** The spelling of the one WORD of a PIECE. */
  private int onlyWord(int piece) {
    checkPiece(piece);
    readPiece(piece, 0, 0);
    if (read.size() != 1) {
      throw new IllegalArgumentException("not just one WORD");
    }
    return read.spelling(0);
  }

  /** The row of a PIECE, in read. */
  private void readPiece(int piece, int file, int line) {
    read.clear();
    typing.spellPiece(piece, texts.fresh());
    texts.readInto(read, null, file, line, 0);
  }

  /** Lets go of the spellings that were made for one call. */
  private void forget() {
    texts.keepFirst(held);
  }

  /** The DESK holds its spellings from now on. */
  private void hold() {
    held = texts.count();
  }

  /** The row of the JOINED LINE from a LINE, in read. */
  private void readLine(int file, int line) {
    forget();
    read.clear();
    typing.join(file, line, texts.fresh());
    texts.readInto(read, typing.places(), file, line, Row.NEW);
  }

  private void readWord(int file, int line, int k) {
    checkLine(file, line);
    readLine(file, line);
    checkBelow(k, read.size());
  }

  public String text(int file, int line) throws IndexOutOfBoundsException {
    checkLine(file, line);
    out.setLength(0);
    typing.spellLine(file, line, out);
    return out.toString();
  }

  public int words(int file, int line) throws IndexOutOfBoundsException {
    checkLine(file, line);
    readLine(file, line);
    return read.size();
  }

  public String word(int file, int line, int k) throws IndexOutOfBoundsException {
    readWord(file, line, k);
    return spelled(read.spelling(k));
  }

  public int ofWord(int file, int line, int k, int what) throws IndexOutOfBoundsException, IllegalArgumentException {
    readWord(file, line, k);
    checkWhat(what, 3);
    switch (what) {
      case 0: return texts.kind(read.spelling(k));
      case 1: return read.isBlank(k) ? 1 : 0;
      case 2: return read.place(k, 0);
      default: return texts.length(read.spelling(k));
    }
  }

  public int number(int file, int line, int k) throws IndexOutOfBoundsException, IllegalStateException {
    readWord(file, line, k);
    int spelling = read.spelling(k);
    int value = texts.kind(spelling) == NUMBER ? texts.value(spelling) : NONE;
    if (value < 0) {
      throw new IllegalStateException("no NUMBER with a value");
    }
    return value;
  }

  public String plain(int file, int line) throws IndexOutOfBoundsException {
    checkLine(file, line);
    readLine(file, line);
    return textOut(read, 0, read.size());
  }

  public String quoted(int file, int line) throws IndexOutOfBoundsException {
    checkLine(file, line);
    readLine(file, line);
    out.setLength(0);
    texts.quote(read, 0, read.size(), out);
    return out.toString();
  }

  public String again(int file, int line, int k) throws IndexOutOfBoundsException {
    checkLine(file, line);
    readLine(file, line);
    readInside();
    checkBelow(k, readAgain.size());
    return spelled(readAgain.spelling(k));
  }

  /** The row that is read from INSIDE of what is in read, QUOTED, in readAgain. */
  private void readInside() {
    out.setLength(0);
    texts.quote(read, 0, read.size(), out);
    texts.inside(out);
    readAgain.clear();
    texts.readInto(readAgain, null, 0, 0, 0);
  }

  private String spelled(int spelling) {
    int most = Texts.makeRoom(out, texts.signsOf(spelling));
    texts.spell(spelling, 0, most, out);
    return out.toString();
  }

  private String textOut(Row row, int first, int end) {
    int most = Texts.makeRoom(out, texts.signsOut(row, first, end));
    texts.textOut(row, first, end, most, out);
    return out.toString();
  }

  // ---- running

  public int run(int file) throws IndexOutOfBoundsException {
    checkFile(file);
    emptyDesk();
    texts.keepFirst(0);
    runner.begin(file);
    for (int i = 0; i < MANY && runner.goesOn(); i++) {
      lookTillNothing(runner.expander());
      runner.takeUp();
    }
    runner.end();
    hold();
    heldByRun = held;
    return runner.out().size();
  }

  private int lookTillNothing(Expander expander) {
    int looks = 0;
    for (int i = 0; i < MANY && expander.look() != LOOK_NOTHING; i++) {
      looks++;
    }
    return looks;
  }

  public int ofRun(int what) throws IllegalArgumentException {
    checkWhat(what, 13);
    return runner.total(what);
  }

  public int ofFile(int file, int what) throws IndexOutOfBoundsException, IllegalArgumentException {
    checkFile(file);
    checkWhat(what, 3);
    switch (what) {
      case 0: return typing.lines(file);
      case 1: return runner.timesEntered(file);
      case 2: return runner.saidOnce(file) ? 1 : 0;
      default: return runner.wordsFrom(file);
    }
  }

  public String outWord(int k) throws IndexOutOfBoundsException {
    checkBelow(k, runner.out().size());
    return spelled(runner.out().spelling(k));
  }

  public int ofOut(int k, int what) throws IndexOutOfBoundsException, IllegalArgumentException {
    Row row = runner.out();
    checkBelow(k, row.size());
    checkWhat(what, 8);
    switch (what) {
      case 0: return texts.kind(row.spelling(k));
      case 1: return row.isBlank(k) ? 1 : 0;
      case 2: return row.isNew(k) ? 1 : 0;
      case 3: return row.places(k);
      case 4: return Integer.bitCount(row.hidden(k));
      case 5: return row.toldFile(k);
      case 6: return row.toldLine(k);
      case 7: return texts.length(row.spelling(k));
      default: return texts.firstSign(row.spelling(k));
    }
  }

  public String outLine(int n) throws IndexOutOfBoundsException {
    checkBelow(n, runner.total(Runner.OUT_LINES));
    return textOut(runner.out(), runner.startOfLine(n), runner.startOfLine(n + 1));
  }

  public int chain(int k, int i) throws IndexOutOfBoundsException {
    Row row = runner.out();
    checkBelow(k, row.size());
    checkBelow(i, row.places(k));
    return row.place(k, i);
  }

  public boolean hides(int k, int piece) throws IndexOutOfBoundsException, IllegalArgumentException {
    checkBelow(k, runner.out().size());
    checkPiece(piece);
    return (runner.out().hidden(k) & names.maskOf(spellingOf(piece))) != 0;
  }

  /** The number of the spelling that is just like a PIECE. */
  private int spellingOf(int piece) {
    forget();
    out.setLength(0);
    typing.spellPiece(piece, out);
    return texts.keep(out, 0, out.length());
  }

  public String trace(int k) throws IndexOutOfBoundsException {
    checkBelow(k, runner.tally().steps());
    return spelled(runner.tally().replaced(k));
  }

  public int ofError(int k, int what) throws IndexOutOfBoundsException, IllegalArgumentException {
    checkBelow(k, runner.tally().errors());
    checkWhat(what, 2);
    return runner.tally().ofErrorAt(k, what);
  }

  public String errorText(int k) throws IndexOutOfBoundsException {
    checkBelow(k, runner.tally().errors());
    return spelled(runner.tally().ofErrorAt(k, Tally.SAID));
  }

  public String name(int i) throws IndexOutOfBoundsException {
    checkBelow(i, names.size());
    return spelled(names.spelling(names.ranked(i)));
  }

  public int ofName(int i, int what) throws IndexOutOfBoundsException, IllegalArgumentException {
    checkBelow(i, names.size());
    checkWhat(what, 4);
    int slot = names.ranked(i);
    switch (what) {
      case 0: return names.parameters(slot);
      case 1: return names.hasMore(slot) ? 1 : 0;
      case 2: return names.bodyOf(slot).size();
      case 3: return names.place(slot);
      default: return runner.tally().timesReplaced(names.spelling(slot));
    }
  }

  public String body(int i) throws IndexOutOfBoundsException {
    checkBelow(i, names.size());
    Row body = names.bodyOf(names.ranked(i));
    return textOut(body, 0, body.size());
  }

  public String lean(int i) throws IndexOutOfBoundsException {
    checkBelow(i, runner.total(Runner.LEANS));
    return spelled(runner.leanAt(i));
  }

  public String unused(int i) throws IndexOutOfBoundsException {
    checkBelow(i, runner.total(Runner.UNUSED));
    return spelled(runner.unusedAt(i));
  }

  public boolean isDefined(int piece) throws IllegalArgumentException {
    checkPiece(piece);
    return names.isKnown(spellingOf(piece));
  }

  // ---- what would be

  public int reckon(int file, int line) throws IndexOutOfBoundsException, IllegalStateException {
    checkLine(file, line);
    layAside(file, line);
    boolean good = condition.settleDefined(aside.row());
    if (good) {
      lookTillNothing(aside);
      good = condition.judge(aside.row()) == Condition.GOOD;
    }
    if (!good) {
      throw new IllegalStateException("no good condition");
    }
    return condition.result();
  }

  private void layAside(int file, int line) {
    readLine(file, line);
    aside.begin(read);
  }

  public String would(int file, int line) throws IndexOutOfBoundsException {
    checkLine(file, line);
    layAside(file, line);
    lookTillNothing(aside);
    return textOut(aside.row(), 0, aside.row().size());
  }

  public int ofWould(int file, int line, int what) throws IndexOutOfBoundsException, IllegalArgumentException {
    checkLine(file, line);
    checkWhat(what, 3);
    layAside(file, line);
    lookTillNothing(aside);
    switch (what) {
      case 0: return aside.row().size();
      case 1: return aside.tally().steps();
      case 2: return aside.tally().errors();
      default: return aside.tally().count();
    }
  }

  // ---- the desk

  private void emptyDesk() {
    read.clear();
    layOnDesk(0, 0);
  }

  private void layOnDesk(int file, int line) {
    onDesk.begin(read);
    touched = NONE;
    lost = false;
    loadedFile = file;
    loadedLine = line;
  }

  public int load(int file, int line) throws IndexOutOfBoundsException {
    checkLine(file, line);
    held = heldByRun;
    readLine(file, line);
    layOnDesk(file, line);
    hold();
    return onDesk.row().size();
  }

  public int step() {
    if (lost) {
      return IS_LOST;
    }
    touched = NONE;
    forget();
    int code = onDesk.look();
    hold();
    return code;
  }

  public int finish() {
    if (lost) {
      return IS_LOST;
    }
    touched = NONE;
    forget();
    int looks = lookTillNothing(onDesk);
    hold();
    return looks;
  }

  private void checkNoneOpen() {
    if (onDesk.open() > 0) {
      throw new IllegalStateException("a call is OPEN");
    }
  }

  private void checkDeskHasRoom() {
    checkNoneOpen();
    if (onDesk.row().size() >= DESK_LIMIT) {
      throw new IllegalStateException("100 WORDS or more");
    }
  }

  public int ahead() throws IllegalStateException {
    checkNoneOpen();
    if (lost) {
      return IS_LOST;
    }
    int point = onDesk.point();
    if (point >= onDesk.row().size()) {
      touched = NONE;
      return NO_WORD_THERE;
    }
    touched = point;
    onDesk.movePoint(point + 1);
    return texts.kind(onDesk.row().spelling(touched));
  }

  public int back() throws IllegalStateException {
    checkNoneOpen();
    if (lost) {
      return IS_LOST;
    }
    int point = onDesk.point();
    if (point <= 0) {
      touched = NONE;
      return NO_WORD_THERE;
    }
    touched = point - 1;
    onDesk.movePoint(touched);
    return texts.kind(onDesk.row().spelling(touched));
  }

  public int drop() throws IllegalStateException {
    checkNoneOpen();
    if (lost) {
      return IS_LOST;
    }
    if (touched == NONE) {
      return NONE_TOUCHED;
    }
    onDesk.row().takeOut(touched, touched + 1);
    if (touched < onDesk.point()) {
      onDesk.movePoint(onDesk.point() - 1);
    }
    touched = NONE;
    return onDesk.row().size();
  }

  public int put(int piece) throws IllegalArgumentException, IllegalStateException {
    checkPiece(piece);
    checkDeskHasRoom();
    if (lost) {
      return IS_LOST;
    }
    forget();
    readPiece(piece, loadedFile, loadedLine);
    hold();
    if (read.size() > 0) {
      int point = onDesk.point();
      onDesk.row().putIn(point, point, read);
      onDesk.movePoint(point + read.size());
      touched = NONE;
    }
    return read.size();
  }

  public int swap(int piece) throws IllegalArgumentException, IllegalStateException {
    forget();
    int spelling = onlyWord(piece);
    checkNoneOpen();
    if (lost) {
      return IS_LOST;
    }
    if (touched == NONE) {
      return NONE_TOUCHED;
    }
    readPiece(piece, loadedFile, loadedLine);
    onDesk.row().putIn(touched, touched + 1, read);
    hold();
    return texts.kind(spelling);
  }

  public int tail(int piece) throws IllegalArgumentException, IllegalStateException {
    checkPiece(piece);
    checkDeskHasRoom();
    forget();
    readPiece(piece, loadedFile, loadedLine);
    hold();
    if (read.size() > 0) {
      onDesk.row().copyWords(read, 0, read.size());
      lost = true;
    }
    return onDesk.row().size();
  }

  public int cursor(int k) throws IndexOutOfBoundsException, IllegalStateException {
    if (k < 0 || k > onDesk.row().size()) {
      throw new IndexOutOfBoundsException("not so many WORDS");
    }
    checkNoneOpen();
    onDesk.movePoint(k);
    touched = NONE;
    boolean wasLost = lost;
    lost = false;
    return wasLost ? 1 : 0;
  }

  public String desk() {
    Row row = onDesk.row();
    int most = Texts.makeRoom(out, signsOfDesk());
    texts.textOut(row, 0, onDesk.point(), most, out);
    out.append('@');
    texts.textOut(row, onDesk.point(), row.size(), most, out);
    return out.toString();
  }

  private long signsOfDesk() {
    Row row = onDesk.row();
    return texts.signsOut(row, 0, onDesk.point()) + 1 + texts.signsOut(row, onDesk.point(), row.size());
  }

  public int ofDesk(int what) throws IllegalArgumentException {
    checkWhat(what, 7);
    Tally tally = onDesk.tally();
    switch (what) {
      case 0: return onDesk.row().size();
      case 1: return onDesk.point();
      case 2: return onDesk.open();
      case 3: return tally.steps();
      case 4: return tally.errors();
      case 5: return tally.errors() == 0 ? NONE : tally.ofErrorAt(tally.errors() - 1, Tally.KIND);
      case 6: return tally.count();
      default: return lost ? 1 : 0;
    }
  }

  // ---- the house

  public int knock() {
    refused++;
    return refused;
  }

  public boolean isSound() {
    boolean sound = runner.isOutSound();
    for (int i = 0; i < 2 * FILES && sound; i++) {
      int file = i / 2;
      int lines = typing.lines(file);
      if (lines > 0) {
        layAside(file, i % 2 == 0 ? 0 : lines - 1);
        boolean goesOn = true;
        for (int k = 0; k < MANY && goesOn; k++) {
          goesOn = aside.look() != LOOK_NOTHING;
        }
        copies.begin(read);
        copies.expand(0);
        sound = copies.row().isSpelledLike(aside.row()) && copies.tally().isLike(aside.tally()) && isReadAgain();
      }
    }
    return sound;
  }

  /** Whether the row in read, QUOTED and as TEXT OUT, is read as the same row again. */
  private boolean isReadAgain() {
    readInside();
    if (!readAgain.isSpelledLike(read)) {
      return false;
    }
    out.setLength(0);
    texts.textOut(read, 0, read.size(), Texts.LONGEST, out);
    texts.copy(out);
    readAgain.clear();
    texts.readInto(readAgain, null, 0, 0, 0);
    return readAgain.isSpelledLike(read);
  }

  public long digest() {
    long d = 5405;
    for (int what = 0; what <= 13; what++) {
      d = d * 31 + runner.total(what);
    }
    d = digestFiles(d);
    d = digestOut(d);
    d = digestErrors(d);
    d = digestNames(d);
    for (int what = 0; what <= 7; what++) {
      d = d * 31 + ofDesk(what);
    }
    d = d * 31 + signsOfDesk();
    d = d * 31 + refused;
    return d * 31 + (isSound() ? 1 : 0);
  }

  private long digestFiles(long start) {
    long d = start;
    for (int file = 0; file < FILES; file++) {
      for (int what = 0; what <= 3; what++) {
        d = d * 31 + ofFile(file, what);
      }
      for (int line = 0; line < typing.lines(file); line++) {
        readLine(file, line);
        d = d * 31 + read.size();
        d = d * 31 + texts.signsOut(read, 0, read.size());
      }
    }
    return d;
  }

  private long digestOut(long start) {
    long d = start;
    Row row = runner.out();
    for (int k = 0; k < row.size(); k++) {
      for (int what = 0; what <= 8; what++) {
        d = d * 31 + ofOut(k, what);
      }
      for (int i = 0; i < row.places(k); i++) {
        d = d * 31 + row.place(k, i);
      }
    }
    return d;
  }

  private long digestErrors(long start) {
    long d = start;
    Tally tally = runner.tally();
    for (int k = 0; k < tally.errors(); k++) {
      for (int what = 0; what <= 2; what++) {
        d = d * 31 + tally.ofErrorAt(k, what);
      }
      d = d * 31 + texts.length(tally.ofErrorAt(k, Tally.SAID));
    }
    return d;
  }

  private long digestNames(long start) {
    long d = start;
    for (int i = 0; i < names.size(); i++) {
      int slot = names.ranked(i);
      d = d * 31 + texts.length(names.spelling(slot));
      for (int what = 0; what <= 4; what++) {
        d = d * 31 + ofName(i, what);
      }
      Row body = names.bodyOf(slot);
      d = d * 31 + texts.signsOut(body, 0, body.size());
    }
    for (int i = 0; i < runner.total(Runner.LEANS); i++) {
      d = d * 31 + texts.length(runner.leanAt(i));
    }
    for (int i = 0; i < runner.total(Runner.UNUSED); i++) {
      d = d * 31 + texts.length(runner.unusedAt(i));
    }
    return d;
  }

  // ---- what the object is made of

  /** The FILES as typed, the PIECES, and the JOINED LINE that was asked for last. */
  private static final class Typing {
    /** Behind each PIECE stands a sign that no PIECE has. */
    private static final String PIECES_0 =
        "@ @A@B@C@D@F@G@H@x@y@z@LINE@FILE@COUNT@MORE@defined@0@1@2@3@7@12@017@";
    private static final String PIECES_24 =
        "0x1F@0b101@9999999999@0x@(@)@,@.@...@#@##@+@-@*@/@%@<@>@=@!@&@|@^@~@";
    private static final String PIECES_48 =
        "?@:@;@'@[@]@\\@_@'it''s'@ ## @<<@>=@";
    private static final String PIECES_60 =
        "#define @#undef @#if @#ifdef @#ifndef @#elif @#else@#endif@#include @#once@#line @#error @";
    private static final String PIECES_72 =
        "F(x) @G(x, y) @H(x, ...) @F(A)@G(A, B)@G(F(1), A)@F(F(2))@H(1, 2, 3)@x ## y@#x@x + y@(x)@";
    private static final String PIECES_84 =
        "x MORE@A B C@ == @ && @ || @defined @F(@A, B)@F A@#MORE@y x@G(y, x)@";

    private final StringBuilder pieces = new StringBuilder();
    private final int[] pieceStarts = new int[PIECES + 1];
    private final char[] signs = new char[FILES * LINES * COLUMNS];
    private final int[] lengths = new int[FILES * LINES];
    private final int[] counts = new int[FILES];
    private final int[] places = new int[LINES * COLUMNS];
    private int lastJoined;

    Typing() {
      pieces.append(PIECES_0).append(PIECES_24).append(PIECES_48);
      pieces.append(PIECES_60).append(PIECES_72).append(PIECES_84);
      int piece = 0;
      for (int i = 0; i < pieces.length(); i++) {
        if (pieces.charAt(i) == '@' && piece < PIECES) {
          piece++;
          pieceStarts[piece] = i + 1;
        }
      }
    }

    private static boolean isPiece(int piece) {
      return piece >= 0 && piece < PIECES;
    }

    private int pieceLength(int piece) {
      return isPiece(piece) ? pieceStarts[piece + 1] - 1 - pieceStarts[piece] : 0;
    }

    int signsOf(int a, int b, int c, int d, int e) {
      return pieceLength(a) + pieceLength(b) + pieceLength(c) + pieceLength(d) + pieceLength(e);
    }

    void spellPiece(int piece, StringBuilder into) {
      int start = isPiece(piece) ? pieceStarts[piece] : 0;
      int end = start + pieceLength(piece);
      for (int i = start; i < end; i++) {
        into.append(pieces.charAt(i));
      }
    }

    int lines(int file) {
      return file >= 0 && file < FILES ? counts[file] : 0;
    }

    private boolean isThere(int file, int line) {
      return file >= 0 && file < FILES && line >= 0 && line < counts[file];
    }

    int length(int file, int line) {
      return isThere(file, line) ? lengths[file * LINES + line] : 0;
    }

    int addLine(int file) {
      if (file < 0 || file >= FILES || counts[file] >= LINES) {
        return NONE;
      }
      lengths[file * LINES + counts[file]] = 0;
      counts[file]++;
      return counts[file] - 1;
    }

    void type(int file, int line, int piece) {
      int length = length(file, line);
      int add = pieceLength(piece);
      if (!isThere(file, line) || length + add > COLUMNS) {
        return;
      }
      int at = (file * LINES + line) * COLUMNS + length;
      for (int i = 0; i < add; i++) {
        signs[at + i] = pieces.charAt(pieceStarts[piece] + i);
      }
      lengths[file * LINES + line] = length + add;
    }

    int takeOut(int file, int line) {
      if (!isThere(file, line)) {
        return 0;
      }
      int had = length(file, line);
      int at = file * LINES + line;
      int behind = counts[file] - line - 1;
      if (behind > 0) {
        System.arraycopy(signs, (at + 1) * COLUMNS, signs, at * COLUMNS, behind * COLUMNS);
        System.arraycopy(lengths, at + 1, lengths, at, behind);
      }
      counts[file]--;
      return had;
    }

    int takeAll(int file) {
      int had = lines(file);
      if (had > 0) {
        counts[file] = 0;
      }
      return had;
    }

    void spellLine(int file, int line, StringBuilder into) {
      int length = length(file, line);
      int at = (file * LINES + line) * COLUMNS;
      for (int i = 0; i < length; i++) {
        into.append(signs[at + i]);
      }
    }

    /** Puts the JOINED LINE from a LINE into a text; places() has the PLACE of each sign then. */
    void join(int file, int line, StringBuilder into) {
      int joined = 0;
      lastJoined = line;
      boolean goesOn = true;
      for (int at = line; at < LINES && goesOn && isThere(file, at); at++) {
        lastJoined = at;
        int start = (file * LINES + at) * COLUMNS;
        int length = length(file, at);
        goesOn = length > 0 && signs[start + length - 1] == '\\';
        int taken = goesOn ? length - 1 : length;
        for (int column = 0; column < taken && joined < places.length; column++) {
          into.append(signs[start + column]);
          places[joined] = 10000 * file + 100 * at + column;
          joined++;
        }
      }
    }

    int[] places() {
      return places;
    }

    /** The LINE with which the JOINED LINE that was asked for last ENDS. */
    int lastJoined() {
      return lastJoined;
    }
  }

  /** A row of WORDS. A WORD is WIDTH cells, so that rows are copied and used again without making objects. */
  private static final class Row {
    static final int BLANK = 1;
    static final int NEW = 2;

    private static final int SPELLING = 0;
    private static final int MARKS = 1;
    private static final int TOLD_FILE = 2;
    private static final int TOLD_LINE = 3;
    private static final int HIDES = 4;
    private static final int LENGTH_OF_CHAIN = 5;
    private static final int CHAIN = 6;
    private static final int LONGEST_CHAIN = 8;
    private static final int WIDTH = CHAIN + LONGEST_CHAIN;

    private int[] cells;
    private int size;

    Row(int room) {
      cells = new int[Math.max(1, room) * WIDTH];
    }

    int size() {
      return size;
    }

    void clear() {
      size = 0;
    }

    private int cell(int word, int field) {
      return word >= 0 && word < size ? cells[word * WIDTH + field] : 0;
    }

    private void setCell(int word, int field, int value) {
      if (word >= 0 && word < size) {
        cells[word * WIDTH + field] = value;
      }
    }

    private void makeRoom(int words) {
      if (words * WIDTH > cells.length) {
        cells = Arrays.copyOf(cells, Math.max(words * WIDTH, 2 * cells.length));
      }
    }

    int spelling(int word) {
      return word >= 0 && word < size ? cells[word * WIDTH + SPELLING] : 0;
    }

    void setSpelling(int word, int spelling) {
      setCell(word, SPELLING, spelling);
    }

    boolean isSpelled(int word, int spelling) {
      return word >= 0 && word < size && cells[word * WIDTH + SPELLING] == spelling;
    }

    int marks(int word) {
      return cell(word, MARKS);
    }

    void setMarks(int word, int marks) {
      setCell(word, MARKS, marks);
    }

    boolean isBlank(int word) {
      return (cell(word, MARKS) & BLANK) != 0;
    }

    boolean isNew(int word) {
      return (cell(word, MARKS) & NEW) != 0;
    }

    int toldFile(int word) {
      return word >= 0 && word < size ? cells[word * WIDTH + TOLD_FILE] : 0;
    }

    int toldLine(int word) {
      return word >= 0 && word < size ? cells[word * WIDTH + TOLD_LINE] : 0;
    }

    void setTold(int word, int file, int line) {
      setCell(word, TOLD_FILE, file);
      setCell(word, TOLD_LINE, line);
    }

    /** The HIDDEN SET, a bit for each NAME, as Names.maskOf tells it. */
    int hidden(int word) {
      return cell(word, HIDES);
    }

    void hide(int word, int mask) {
      setCell(word, HIDES, cell(word, HIDES) | mask);
    }

    int places(int word) {
      return cell(word, LENGTH_OF_CHAIN);
    }

    int place(int word, int i) {
      return i >= 0 && i < LONGEST_CHAIN ? cell(word, CHAIN + i) : 0;
    }

    /** Puts the CHAIN of a WORD of a row to the end of that of a WORD here. */
    void lengthenChain(int word, Row from, int other) {
      int length = cell(word, LENGTH_OF_CHAIN);
      int more = from.cell(other, LENGTH_OF_CHAIN);
      for (int i = 0; i < more && length < LONGEST_CHAIN; i++) {
        setCell(word, CHAIN + length, from.cell(other, CHAIN + i));
        length++;
      }
      setCell(word, LENGTH_OF_CHAIN, length);
    }

    void add(int spelling, int marks, int file, int line, int place) {
      makeRoom(size + 1);
      int at = size * WIDTH;
      size++;
      cells[at + SPELLING] = spelling;
      cells[at + MARKS] = marks;
      cells[at + TOLD_FILE] = file;
      cells[at + TOLD_LINE] = line;
      cells[at + HIDES] = 0;
      cells[at + LENGTH_OF_CHAIN] = 1;
      cells[at + CHAIN] = place;
    }

    /** Puts the WORDS from first up to end of another row behind all. */
    void copyWords(Row from, int first, int end) {
      int count = Math.min(end, from.size) - first;
      if (first < 0 || count <= 0) {
        return;
      }
      makeRoom(size + count);
      System.arraycopy(from.cells, first * WIDTH, cells, size * WIDTH, count * WIDTH);
      size += count;
    }

    void setWord(int word, Row from, int other) {
      if (word >= 0 && word < size && other >= 0 && other < from.size) {
        System.arraycopy(from.cells, other * WIDTH, cells, word * WIDTH, WIDTH);
      }
    }

    void takeOut(int first, int end) {
      if (first >= 0 && first <= end && end <= size) {
        System.arraycopy(cells, end * WIDTH, cells, first * WIDTH, (size - end) * WIDTH);
        size -= end - first;
      }
    }

    /** Puts another row in place of the WORDS from first up to end. */
    void putIn(int first, int end, Row by) {
      if (first < 0 || first > end || end > size) {
        return;
      }
      int grown = size - (end - first) + by.size;
      makeRoom(grown);
      System.arraycopy(cells, end * WIDTH, cells, (first + by.size) * WIDTH, (size - end) * WIDTH);
      System.arraycopy(by.cells, 0, cells, first * WIDTH, by.size * WIDTH);
      size = grown;
    }

    /** In an argument a WORD that is NEW is BLANK instead. */
    void makeNewOnesBlank(int first, int end) {
      for (int i = first; i < end; i++) {
        if ((cell(i, MARKS) & NEW) != 0) {
          setCell(i, MARKS, BLANK);
        }
      }
    }

    boolean isSpelledLike(Row other) {
      boolean same = size == other.size;
      for (int i = 0; i < size && same; i++) {
        same = cell(i, SPELLING) == other.cell(i, SPELLING);
      }
      return same;
    }
  }

  /**
   * Every spelling is kept once and has a number, so that equal spellings are equal ints; and texts are read. A spelling
   * that is not SHORT, which only QUOTING and PASTING can make, is kept by its parts: its signs may double with every
   * STEP, its parts do not.
   */
  private static final class Texts {
    static final int NOTHING = 0;
    static final int OPEN = 1;
    static final int CLOSE = 2;
    static final int COMMA = 3;
    static final int HASH = 4;
    static final int PASTE = 5;
    static final int DOTS = 6;
    static final int LINE = 7;
    static final int FILE = 8;
    static final int COUNT = 9;
    static final int MORE = 10;
    static final int DEFINED = 11;
    static final int ZERO = 12;
    static final int ONE = 13;
    static final int IF = 14;
    static final int IFDEF = 15;
    static final int IFNDEF = 16;
    static final int ELIF = 17;
    static final int ELSE = 18;
    static final int ENDIF = 19;
    static final int DEFINE = 20;
    static final int UNDEF = 21;
    static final int INCLUDE = 22;
    static final int ONCE = 23;
    static final int RENUMBER = 24;
    static final int ERROR = 25;
    static final int QUESTION = 26;
    static final int COLON = 27;
    static final int OR_ELSE = 28;
    static final int AND_THEN = 29;
    static final int OR = 30;
    static final int XOR = 31;
    static final int AND = 32;
    static final int SAME = 33;
    static final int OTHER = 34;
    static final int LESS = 35;
    static final int AT_MOST = 36;
    static final int GREATER = 37;
    static final int AT_LEAST = 38;
    static final int LEFT = 39;
    static final int RIGHT = 40;
    static final int PLUS = 41;
    static final int MINUS = 42;
    static final int TIMES = 43;
    static final int DIVIDED = 44;
    static final int REST = 45;
    static final int NOT = 46;
    static final int TURNED = 47;
    /** The spellings from OPEN on, in the order of their numbers. */
    private static final String KNOWN =
        "( ) , # ## ... LINE FILE COUNT MORE defined 0 1 if ifdef ifndef elif else endif define undef include once ";
    private static final String KNOWN_BEHIND =
        "line error ? : || && | ^ & == != < <= > >= << >> + - * / % ! ~ ";

    /** No WORD of a JOINED LINE has more signs, and so no NAME that is DEFINED. */
    private static final int SHORT = 512;
    /** No String holds more signs. */
    static final int LONGEST = 2147483645;
    /** Of a text that no String holds so many signs are returned: they take up hardly any room. */
    private static final int OF_TOO_LONG = 1000;
    /** Signs are counted up to here, which is far beyond what an int holds. */
    private static final long MOST_COUNTED = 1L << 40;
    private static final int MOST_DOUBLINGS = 40;
    private static final int BUCKETS = 512;
    private static final int GREATEST = 2147483647;
    /** So many digits behind one that is not 0 are beyond GREATEST by any base. */
    private static final int TOO_MANY_DIGITS = 31;
    private static final String DIGITS = "0123456789abcdefABCDEF";

    /** What is kept of each spelling; its signs and its parts end where those of the next one begin. */
    private static final int SIGNS_FROM = 0;
    private static final int PARTS_FROM = 1;
    private static final int KEPT_BEFORE = 2;
    private static final int BUCKET = 3;
    private static final int FIRST_SIGN = 4;
    private static final int FORM = 5;
    private static final int WIDTH = 6;

    private static final int SIGN_BY_SIGN = 0;
    private static final int JOINED = 1;
    private static final int IN_QUOTES = 2;

    /** What is kept of each spelling through whose parts spell() goes. */
    private static final int WHOLE = 0;
    private static final int NEXT_PART = 1;
    private static final int QUOTED_TIMES = 2;
    private static final int PATH = 3;

    private final StringBuilder signs = new StringBuilder();
    /** Twice the number of a spelling each, and 1 more, if a blank stands ahead of it. */
    private int[] parts = new int[64];
    private int partCount;
    private int[] cells = new int[256 * WIDTH];
    /** Of each spelling how many signs it has, and how many of these are "'". */
    private long[] sizes = new long[256 * 2];
    private int count = 1;
    /** Of each bucket the spelling that was kept last. */
    private final int[] heads = new int[BUCKETS];
    private final int knownCount;
    /** The text that is read. */
    private final StringBuilder source = new StringBuilder();
    private final StringBuilder scratch = new StringBuilder();
    private int[] path = new int[16 * PATH];
    /** What the signs of each spelling come to as digits of the base that was asked for last. */
    private int[] comesTo = new int[16];

    Texts() {
      scratch.append(KNOWN).append(KNOWN_BEHIND);
      int start = 0;
      for (int i = 0; i < scratch.length(); i++) {
        if (scratch.charAt(i) == ' ') {
          keep(scratch, start, i);
          start = i + 1;
        }
      }
      knownCount = count;
    }

    /** How many spellings are kept. */
    int count() {
      return count;
    }

    /** Lets go of all spellings but the first ones; those that are KNOWN stay. */
    void keepFirst(int many) {
      int left = Math.max(many, knownCount);
      for (int i = count - 1; i >= left; i--) {
        heads[cells[i * WIDTH + BUCKET]] = cells[i * WIDTH + KEPT_BEFORE];
      }
      if (left < count) {
        count = left;
        signs.setLength(cells[count * WIDTH + SIGNS_FROM]);
        partCount = cells[count * WIDTH + PARTS_FROM];
      }
    }

    /** The number of the spelling that stands in a text from first up to end. */
    int keep(StringBuilder from, int first, int end) {
      int length = Math.min(end, from.length()) - first;
      if (first < 0 || length <= 0) {
        return NOTHING;
      }
      int hash = length;
      int quotes = 0;
      for (int i = 0; i < length; i++) {
        hash = hash * 31 + from.charAt(first + i);
        quotes += from.charAt(first + i) == '\'' ? 1 : 0;
      }
      int bucket = Math.floorMod(hash, BUCKETS);
      int at = heads[bucket];
      for (int i = 0; i < count && at > 0; i++) {
        int start = cells[at * WIDTH + SIGNS_FROM];
        boolean like = cells[at * WIDTH + FORM] == SIGN_BY_SIGN && sizes[2 * at] == length;
        for (int k = 0; k < length && like; k++) {
          like = signs.charAt(start + k) == from.charAt(first + k);
        }
        if (like) {
          return at;
        }
        at = cells[at * WIDTH + KEPT_BEFORE];
      }
      for (int i = 0; i < length; i++) {
        signs.append(from.charAt(first + i));
      }
      return add(bucket, SIGN_BY_SIGN, from.charAt(first), length, quotes);
    }

    /** The number of the spelling that is made of parts, which stand behind all others up to end. */
    private int keepParts(int end, int form, long length, long quotes) {
      int hash = form;
      for (int i = partCount; i < end && i < parts.length; i++) {
        hash = hash * 31 + parts[i];
      }
      int bucket = Math.floorMod(hash, BUCKETS);
      int at = heads[bucket];
      for (int i = 0; i < count && at > 0; i++) {
        int start = cells[at * WIDTH + PARTS_FROM];
        int many = cells[(at + 1) * WIDTH + PARTS_FROM] - start;
        boolean like = cells[at * WIDTH + FORM] == form && many == end - partCount;
        for (int k = 0; k < many && like; k++) {
          like = parts[start + k] == parts[partCount + k];
        }
        if (like) {
          return at;
        }
        at = cells[at * WIDTH + KEPT_BEFORE];
      }
      char first = form == IN_QUOTES ? '\'' : firstSign(parts[partCount] / 2);
      partCount = end;
      return add(bucket, form, first, length, quotes);
    }

    private int add(int bucket, int form, char first, long length, long quotes) {
      if ((count + 2) * WIDTH > cells.length) {
        cells = Arrays.copyOf(cells, 2 * cells.length);
        sizes = Arrays.copyOf(sizes, 2 * sizes.length);
      }
      int at = count * WIDTH;
      cells[at + KEPT_BEFORE] = heads[bucket];
      cells[at + BUCKET] = bucket;
      cells[at + FIRST_SIGN] = first;
      cells[at + FORM] = form;
      cells[at + WIDTH + SIGNS_FROM] = signs.length();
      cells[at + WIDTH + PARTS_FROM] = partCount;
      sizes[2 * count] = Math.min(length, MOST_COUNTED);
      sizes[2 * count + 1] = Math.min(quotes, MOST_COUNTED);
      heads[bucket] = count;
      count++;
      return count - 1;
    }

    private void setPart(int at, int spelling, boolean blank) {
      if (at >= parts.length) {
        parts = Arrays.copyOf(parts, 2 * at);
      }
      if (at >= 0 && at < parts.length) {
        parts[at] = 2 * spelling + (blank ? 1 : 0);
      }
    }

    /** How many signs a spelling has. */
    long signsOf(int spelling) {
      return spelling > 0 && spelling < count ? sizes[2 * spelling] : 0;
    }

    private long quotesOf(int spelling) {
      return spelling > 0 && spelling < count ? sizes[2 * spelling + 1] : 0;
    }

    /** How many signs a spelling has, as far as an int tells it. */
    int length(int spelling) {
      return spelling > 0 && spelling < count ? (int) Math.min(sizes[2 * spelling], GREATEST) : 0;
    }

    char firstSign(int spelling) {
      return spelling > 0 && spelling < count ? (char) cells[spelling * WIDTH + FIRST_SIGN] : ' ';
    }

    private boolean isJoined(int spelling) {
      return spelling > 0 && spelling < count && cells[spelling * WIDTH + FORM] == JOINED;
    }

    /** Of a spelling that is JOINED the first part (0) or the second one (1). */
    private int part(int spelling, int i) {
      int at = cells[spelling * WIDTH + PARTS_FROM] + i;
      return at < parts.length ? parts[at] / 2 : NOTHING;
    }

    /** A sign of a spelling that is not IN_QUOTES; a blank, if there are not so many. */
    private char signAt(int spelling, int i) {
      int at = spelling;
      long left = i;
      for (int k = 0; k < count && isJoined(at); k++) {
        long first = signsOf(part(at, 0));
        at = part(at, left < first ? 0 : 1);
        left -= left < first ? 0 : first;
      }
      return left >= 0 && left < signsOf(at) && cells[at * WIDTH + FORM] == SIGN_BY_SIGN
          ? signs.charAt(cells[at * WIDTH + SIGNS_FROM] + (int) left) : ' ';
    }

    /**
     * Lays a spelling behind a text as it is inside of so many quotes: for each of them each "'" is typed twice. The
     * text has so many signs then at most.
     */
    void spell(int spelling, int quotedTimes, int most, StringBuilder into) {
      int begun = spelling > 0 && spelling < count ? spelling : NOTHING;
      int times = quotedTimes;
      int deep = 0;
      for (long i = 0; i < 4L * LONGEST && (begun != NOTHING || deep > 0) && into.length() < most; i++) {
        int at = (deep - 1) * PATH;
        if (begun != NOTHING && cells[begun * WIDTH + FORM] == SIGN_BY_SIGN) {
          for (int k = cells[begun * WIDTH + SIGNS_FROM]; k < cells[(begun + 1) * WIDTH + SIGNS_FROM]; k++) {
            spellSign(signs.charAt(k), times, most, into);
          }
          begun = NOTHING;
        } else if (begun != NOTHING) {
          if (cells[begun * WIDTH + FORM] == IN_QUOTES) {
            spellSign('\'', times, most, into);
          }
          deep++;
          beginParts(begun, times, deep);
          begun = NOTHING;
        } else if (path[at + NEXT_PART] < cells[(path[at + WHOLE] + 1) * WIDTH + PARTS_FROM]) {
          int part = parts[path[at + NEXT_PART]];
          path[at + NEXT_PART]++;
          if (part % 2 == 1) {
            into.append(' ');
          }
          begun = part / 2;
          times = path[at + QUOTED_TIMES] + (cells[path[at + WHOLE] * WIDTH + FORM] == IN_QUOTES ? 1 : 0);
        } else {
          if (cells[path[at + WHOLE] * WIDTH + FORM] == IN_QUOTES) {
            spellSign('\'', path[at + QUOTED_TIMES], most, into);
          }
          deep--;
        }
      }
    }

    private void beginParts(int spelling, int quotedTimes, int deep) {
      if (deep * PATH > path.length) {
        path = Arrays.copyOf(path, 2 * deep * PATH);
      }
      int at = (deep - 1) * PATH;
      path[at + WHOLE] = spelling;
      path[at + NEXT_PART] = cells[spelling * WIDTH + PARTS_FROM];
      path[at + QUOTED_TIMES] = quotedTimes;
    }

    private static void spellSign(char c, int quotedTimes, int most, StringBuilder into) {
      int doublings = c == '\'' ? Math.min(quotedTimes, MOST_DOUBLINGS) : 0;
      for (long i = 0; i < 1L << doublings && into.length() < most; i++) {
        into.append(c);
      }
    }

    /** A KIND is told by the first sign. */
    int kind(int spelling) {
      char c = spelling > 0 && spelling < count ? (char) cells[spelling * WIDTH + FIRST_SIGN] : ' ';
      if (c == '\'') {
        return TEXT;
      }
      if (c >= '0' && c <= '9') {
        return NUMBER;
      }
      return c == '_' || c >= 'A' && c <= 'Z' || c >= 'a' && c <= 'z' ? NAME : SIGN;
    }

    /** Less than 0, 0 or more, as one spelling is ahead of another by the signs' codes; both are SHORT. */
    int compare(int one, int other) {
      boolean kept = one > 0 && one < count && other > 0 && other < count;
      int start = kept ? cells[one * WIDTH + SIGNS_FROM] : 0;
      int otherStart = kept ? cells[other * WIDTH + SIGNS_FROM] : 0;
      int length = length(one);
      int otherLength = length(other);
      for (int i = 0; i < length && i < otherLength; i++) {
        int apart = signs.charAt(start + i) - signs.charAt(otherStart + i);
        if (apart != 0) {
          return apart;
        }
      }
      return length - otherLength;
    }

    private int numberSpelled(int number) {
      source.setLength(0);
      source.append(number);
      return keep(source, 0, source.length());
    }

    /** The spelling of the NUMBER by which a WORD that is BUILT IN is REPLACED. */
    int builtIn(Row row, int word, Tally tally) {
      switch (row.spelling(word)) {
        case LINE: return numberSpelled(row.toldLine(word));
        case FILE: return numberSpelled(row.toldFile(word));
        default: return numberSpelled(tally.nextCount());
      }
    }

    /** The VALUE of a NUMBER, however long; NONE, if it has none. */
    int value(int spelling) {
      char second = firstSign(spelling) == '0' ? signAt(spelling, 1) : ' ';
      int base = second == ' ' ? 10 : second == 'x' ? 16 : second == 'b' ? 2 : 8;
      long ahead = base == 16 || base == 2 ? 2 : 0;
      if (isJoined(spelling)) {
        reckonParts(spelling, base);
      }
      int at = spelling;
      int value = 0;
      long behind = 0;
      for (int i = 0; i < count && isJoined(at); i++) {
        int first = part(at, 0);
        int other = part(at, 1);
        if (ahead >= signsOf(first)) {
          ahead -= signsOf(first);
          at = other;
        } else {
          value = sideBySide(comesTo[other], value, behind, base);
          behind += signsOf(other);
          at = first;
        }
      }
      return sideBySide(digits(at, (int) ahead, base), value, behind, base);
    }

    /** Sets comesTo of all spellings ahead of one; its parts are among these. */
    private void reckonParts(int spelling, int base) {
      if (spelling > comesTo.length) {
        comesTo = new int[2 * spelling];
      }
      for (int i = 1; i < spelling; i++) {
        comesTo[i] = isJoined(i)
            ? sideBySide(comesTo[part(i, 0)], comesTo[part(i, 1)], signsOf(part(i, 1)), base)
            : digits(i, 0, base);
      }
    }

    /** What two rows of digits come to as one row; NONE, if one is NONE, or if it is more than a VALUE may be. */
    private static int sideBySide(int first, int other, long signsOfOther, int base) {
      if (first == NONE || other == NONE) {
        return NONE;
      }
      long value = first;
      long most = Math.min(signsOfOther, TOO_MANY_DIGITS);
      for (int i = 0; i < most && value <= GREATEST; i++) {
        value *= base;
      }
      value += other;
      return value > GREATEST ? NONE : (int) value;
    }

    /**
     * What the signs of a spelling that is kept sign by sign come to as digits, from one of them on; NONE, if one is no
     * digit, if there are none, or if it is more than a VALUE may be.
     */
    private int digits(int spelling, int from, int base) {
      int start = cells[spelling * WIDTH + SIGNS_FROM] + from;
      int end = cells[(spelling + 1) * WIDTH + SIGNS_FROM];
      long value = start < end ? 0 : NONE;
      for (int i = start; i < end && value >= 0; i++) {
        int digit = DIGITS.indexOf(signs.charAt(i));
        digit -= digit >= 16 ? 6 : 0;
        value = digit >= 0 && digit < base ? value * base + digit : NONE;
        value = value > GREATEST ? NONE : value;
      }
      return (int) value;
    }

    /**
     * A text without signs, into which so many fit and hardly more: what it outgrew would take up room, too. Tells how
     * many signs it may have.
     */
    static int makeRoom(StringBuilder text, long many) {
      int most = many <= LONGEST ? LONGEST : OF_TOO_LONG;
      text.setLength((int) Math.min(many, most));
      text.setLength(0);
      return most;
    }

    /** The text to be read, without signs. */
    StringBuilder fresh() {
      source.setLength(0);
      return source;
    }

    void copy(StringBuilder from) {
      source.setLength(0);
      for (int i = 0; i < from.length(); i++) {
        source.append(from.charAt(i));
      }
    }

    /** The text to be read becomes INSIDE of a QUOTED row. */
    void inside(StringBuilder quoted) {
      source.setLength(0);
      for (int i = 1; i < quoted.length() - 1; i++) {
        source.append(quoted.charAt(i));
        if (quoted.charAt(i) == '\'') {
          i++;
        }
      }
    }

    /** Puts the WORDS of the text that is read behind those of a row; mark is what the first one has besides. */
    void readInto(Row row, int[] places, int file, int line, int mark) {
      int marks = mark;
      int at = 0;
      for (int i = 0; i < MANY && at < source.length(); i++) {
        char c = source.charAt(at);
        if (c == ' ') {
          marks |= Row.BLANK;
          at++;
        } else if (c == '[') {
          marks |= Row.BLANK;
          at = behindComment(at);
        } else {
          int end = endOfWord(at);
          int place = places != null && at < places.length ? places[at] : PUT_PLACE;
          row.add(keep(source, at, end), marks, file, line, place);
          marks = 0;
          at = end;
        }
      }
    }

    private int behindComment(int from) {
      for (int i = from; i < source.length(); i++) {
        if (source.charAt(i) == ']') {
          return i + 1;
        }
      }
      return source.length();
    }

    /** Where the WORD ends that begins there; a TEXT that has no end gets one, in the text that is read. */
    private int endOfWord(int from) {
      int length = source.length();
      char first = source.charAt(from);
      int end = from;
      char c = first;
      while (end < length && (c == '_' || c >= '0' && c <= '9' || c >= 'A' && c <= 'Z' || c >= 'a' && c <= 'z')) {
        end++;
        c = end < length ? source.charAt(end) : ' ';
      }
      if (end > from) {
        return end;
      }
      char second = from + 1 < length ? source.charAt(from + 1) : ' ';
      if (first == '.') {
        return second != '.' ? from + 1 : from + 2 < length && source.charAt(from + 2) == '.' ? from + 3 : from + 2;
      }
      if (first != '\'') {
        boolean doubled = second == first && "#+-<>=&|".indexOf(first) >= 0;
        boolean compared = second == '=' && "<>!".indexOf(first) >= 0;
        return doubled || compared ? from + 2 : from + 1;
      }
      for (end = from + 1; end < length; end++) {
        if (source.charAt(end) == '\'') {
          if (end + 1 >= length || source.charAt(end + 1) != '\'') {
            return end + 1;
          }
          end++;
        }
      }
      source.append('\'');
      return source.length();
    }

    /** Whether reading two WORDS, one directly behind the other, gives just these two. */
    boolean apart(int one, int other) {
      int kind = kind(one);
      int otherKind = kind(other);
      if (kind == SIGN && otherKind == SIGN) {
        int first = laySigns(one, other);
        return endOfWord(0) == first && endOfWord(first) == source.length();
      }
      return kind == SIGN || (kind == TEXT ? otherKind != TEXT : otherKind == TEXT || otherKind == SIGN);
    }

    /** Whether reading two WORDS, one directly behind the other, gives just one. */
    boolean isOneWord(int one, int other) {
      int kind = kind(one);
      int otherKind = kind(other);
      if (kind == SIGN && otherKind == SIGN) {
        laySigns(one, other);
        return endOfWord(0) == source.length();
      }
      return kind == TEXT ? otherKind == TEXT : kind != SIGN && (otherKind == NAME || otherKind == NUMBER);
    }

    /** Two SIGNS become the text that is read; tells where the second one begins. */
    private int laySigns(int one, int other) {
      source.setLength(0);
      int first = 0;
      for (int i = 0; i < 2; i++) {
        int spelling = i == 0 ? one : other;
        first = source.length();
        boolean kept = spelling > 0 && spelling < count;
        int at = kept ? cells[spelling * WIDTH + SIGNS_FROM] : 0;
        int end = kept ? cells[(spelling + 1) * WIDTH + SIGNS_FROM] : 0;
        for (int k = at; k < end; k++) {
          source.append(signs.charAt(k));
        }
      }
      return first;
    }

    /** Both spellings as one, which may be that of no WORD. */
    int joined(int one, int other) {
      long length = signsOf(one) + signsOf(other);
      if (one == NOTHING || other == NOTHING) {
        return one == NOTHING ? other : one;
      }
      if (length > SHORT) {
        setPart(partCount, one, false);
        setPart(partCount + 1, other, false);
        return keepParts(partCount + 2, JOINED, length, quotesOf(one) + quotesOf(other));
      }
      scratch.setLength(0);
      spell(one, 0, LONGEST, scratch);
      spell(other, 0, LONGEST, scratch);
      return keep(scratch, 0, scratch.length());
    }

    /** Lays TEXT OUT behind a text, which has so many signs then at most. */
    void textOut(Row row, int first, int end, int most, StringBuilder into) {
      for (int i = first; i < end; i++) {
        if (i > first && !apart(row.spelling(i - 1), row.spelling(i))) {
          into.append(' ');
        }
        spell(row.spelling(i), 0, most, into);
      }
    }

    /** How many signs TEXT OUT has. */
    long signsOut(Row row, int first, int end) {
      long many = 0;
      for (int i = first; i < end; i++) {
        many += signsOf(row.spelling(i));
        if (i > first && !apart(row.spelling(i - 1), row.spelling(i))) {
          many++;
        }
      }
      return many;
    }

    void quote(Row row, int first, int end, StringBuilder into) {
      into.append('\'');
      for (int i = first; i < end; i++) {
        if (i > first && (row.marks(i) != 0 || !apart(row.spelling(i - 1), row.spelling(i)))) {
          into.append(' ');
        }
        spell(row.spelling(i), 1, LONGEST, into);
      }
      into.append('\'');
    }

    /** The number of the spelling of a QUOTED row. */
    int quotedRow(Row row, int first, int end) {
      long length = 2;
      long quotes = 2;
      for (int i = first; i < end; i++) {
        boolean blank = i > first && (row.marks(i) != 0 || !apart(row.spelling(i - 1), row.spelling(i)));
        long doubled = quotesOf(row.spelling(i));
        setPart(partCount + i - first, row.spelling(i), blank);
        length += signsOf(row.spelling(i)) + doubled + (blank ? 1 : 0);
        quotes += 2 * doubled;
      }
      if (length > SHORT) {
        return keepParts(partCount + end - first, IN_QUOTES, length, quotes);
      }
      scratch.setLength(0);
      scratch.append('\'');
      for (int i = first; i < end; i++) {
        if (parts[partCount + i - first] % 2 == 1) {
          scratch.append(' ');
        }
        spell(row.spelling(i), 1, LONGEST, scratch);
      }
      scratch.append('\'');
      return keep(scratch, 0, scratch.length());
    }
  }

  /** What is counted while rows are EXPANDED: STEPS with their NAMES, COUNT, and errors. */
  private static final class Tally {
    static final int KIND = 0;
    static final int SAID = 3;
    private static final int TOLD_FILE = 1;
    private static final int TOLD_LINE = 2;
    private static final int WIDTH = 4;
    private static final int MOST_STEPS = 80;

    private final int[] trace = new int[MOST_STEPS];
    private int steps;
    private int count;
    private boolean spent;
    private int[] cells = new int[16 * WIDTH];
    private int errors;

    void clear() {
      steps = 0;
      count = 0;
      spent = false;
      errors = 0;
    }

    int steps() {
      return steps;
    }

    int count() {
      return count;
    }

    int errors() {
      return errors;
    }

    void addStep(int spelling) {
      if (steps < MOST_STEPS) {
        trace[steps] = spelling;
        steps++;
      }
    }

    int nextCount() {
      count++;
      return count - 1;
    }

    int replaced(int step) {
      return step >= 0 && step < steps ? trace[step] : Texts.NOTHING;
    }

    int timesReplaced(int spelling) {
      int times = 0;
      for (int i = 0; i < steps; i++) {
        if (trace[i] == spelling) {
          times++;
        }
      }
      return times;
    }

    /** Whether no STEP is left. */
    boolean isSpent() {
      return steps >= MOST_STEPS;
    }

    /** SPENT is told once. */
    void tellSpent(Row row, int word) {
      if (!spent) {
        spent = true;
        addErrorOf(SPENT, row, word);
      }
    }

    void addErrorOf(int kind, Row row, int word) {
      addError(kind, row.toldFile(word), row.toldLine(word), row.spelling(word));
    }

    void addError(int kind, int file, int line, int said) {
      int at = errors * WIDTH;
      if (at + WIDTH > cells.length) {
        cells = Arrays.copyOf(cells, 2 * cells.length);
      }
      cells[at + KIND] = kind;
      cells[at + TOLD_FILE] = file;
      cells[at + TOLD_LINE] = line;
      cells[at + SAID] = said;
      errors++;
    }

    int ofErrorAt(int k, int what) {
      return k >= 0 && k < errors && what >= 0 && what < WIDTH ? cells[k * WIDTH + what] : 0;
    }

    boolean isLike(Tally other) {
      return steps == other.steps && errors == other.errors;
    }
  }

  /** The NAMES that are DEFINED, each in a slot, and the BUILT IN ones. */
  private static final class Names {
    static final int SLOTS = 8;
    /** Told instead of a slot for a NAME that is BUILT IN. */
    static final int BUILT_IN = 9;
    /** Told of an ORDER "# define" that is as it should be and changes nothing more. */
    static final int GOOD = -1;

    private static final int MOST_NAMES_BEFORE_MORE = 4;
    private static final int MOST_PARAMETERS = 5;
    private static final int LONGEST_BODY = 20;
    /** An ORDER is read into this slot, which is none of those that are DEFINED. */
    private static final int SPARE = 8;

    private final Texts texts;
    private final int[] spellings = new int[SLOTS + 1];
    private final int[] counts = new int[SLOTS + 1];
    private final boolean[] more = new boolean[SLOTS + 1];
    private final int[] parameters = new int[(SLOTS + 1) * MOST_PARAMETERS];
    private final boolean[] needed = new boolean[(SLOTS + 1) * MOST_PARAMETERS];
    private final Row[] bodies = new Row[SLOTS + 1];
    private final int[] places = new int[SLOTS + 1];
    private int size;
    /**
     * The NAMES that were DEFINED in the RUN. All but 8 of them need a LINE that defines and one that undefines them,
     * and FILES have 40 LINES at most, so there are 24 of them at most.
     */
    private final int[] maskNames = new int[32];
    private int maskCount;

    Names(Texts texts) {
      this.texts = texts;
      for (int i = 0; i <= SLOTS; i++) {
        bodies[i] = new Row(LONGEST_BODY);
      }
    }

    void clear() {
      Arrays.fill(spellings, Texts.NOTHING);
      size = 0;
      maskCount = 0;
    }

    int size() {
      return size;
    }

    private static boolean isSlot(int slot) {
      return slot >= 0 && slot <= SPARE;
    }

    int spelling(int slot) {
      return isSlot(slot) ? spellings[slot] : Texts.NOTHING;
    }

    /** How many PARAMETERS; NONE, if it is without. */
    int parameters(int slot) {
      return isSlot(slot) ? counts[slot] : NONE;
    }

    boolean hasParameters(int slot) {
      return parameters(slot) != NONE;
    }

    boolean hasMore(int slot) {
      return isSlot(slot) && more[slot];
    }

    int place(int slot) {
      return isSlot(slot) ? places[slot] : NONE;
    }

    Row bodyOf(int slot) {
      return bodies[slot >= 0 && slot <= SPARE ? slot : SPARE];
    }

    boolean isNeeded(int slot, int parameter) {
      return isSlot(slot) && parameter >= 0 && parameter < MOST_PARAMETERS
          && needed[slot * MOST_PARAMETERS + parameter];
    }

    /** Which PARAMETER is so spelled; NONE, if none is. */
    int parameterSpelled(int slot, int spelling) {
      if (slot < 0 || slot > SPARE) {
        return NONE;
      }
      for (int i = 0; i < counts[slot] && i < MOST_PARAMETERS; i++) {
        if (parameters[slot * MOST_PARAMETERS + i] == spelling) {
          return i;
        }
      }
      return NONE;
    }

    /** The slot of a NAME that is DEFINED; NONE, if it is not. */
    int find(int spelling) {
      for (int slot = 0; slot < SLOTS && spelling != Texts.NOTHING; slot++) {
        if (spellings[slot] == spelling) {
          return slot;
        }
      }
      return NONE;
    }

    static boolean isBuiltIn(int spelling) {
      return spelling >= Texts.LINE && spelling <= Texts.COUNT;
    }

    boolean isKnown(int spelling) {
      return isBuiltIn(spelling) || find(spelling) != NONE;
    }

    private boolean isFree(int spelling) {
      return texts.kind(spelling) == NAME && (spelling < Texts.LINE || spelling > Texts.DEFINED);
    }

    /** The slot of that NAME of those DEFINED, by the order of spellings. */
    int ranked(int rank) {
      for (int slot = 0; slot < SLOTS; slot++) {
        int ahead = 0;
        for (int other = 0; other < SLOTS; other++) {
          if (spellings[other] != Texts.NOTHING && texts.compare(spellings[other], spellings[slot]) < 0) {
            ahead++;
          }
        }
        if (spellings[slot] != Texts.NOTHING && ahead == rank) {
          return slot;
        }
      }
      return SPARE;
    }

    /** The bit by which a NAME stands in HIDDEN SETS; 0, if it was not DEFINED in the RUN. */
    int maskOf(int spelling) {
      for (int i = 0; i < maskCount; i++) {
        if (maskNames[i] == spelling) {
          return 1 << i;
        }
      }
      return 0;
    }

    /** Does an ORDER "# undef"; tells whether it is as it should be. */
    boolean undefine(Row order) {
      if (order.size() != 3 || !isFree(order.spelling(2))) {
        return false;
      }
      int slot = find(order.spelling(2));
      if (slot != NONE) {
        spellings[slot] = Texts.NOTHING;
        size--;
      }
      return true;
    }

    /** Does an ORDER "# define"; tells the KIND of error, or GOOD. */
    int define(Row order) {
      int body = NONE;
      if (isFree(order.spelling(2))) {
        clearSpare(order);
        body = order.isSpelled(3, Texts.OPEN) && !order.isBlank(3) ? readParameters(order) : 3;
      }
      if (body == NONE || !takeBody(order, body)) {
        return BAD_ORDER;
      }
      findNeeded();
      int slot = find(spellings[SPARE]);
      if (slot != NONE) {
        return isLikeSpare(slot) ? GOOD : DIFFERENT;
      }
      for (slot = 0; slot < SLOTS; slot++) {
        if (spellings[slot] == Texts.NOTHING) {
          takeSpare(slot);
          return GOOD;
        }
      }
      return FULL;
    }

    private void takeSpare(int slot) {
      spellings[slot] = spellings[SPARE];
      counts[slot] = counts[SPARE];
      more[slot] = more[SPARE];
      places[slot] = places[SPARE];
      for (int i = 0; i < MOST_PARAMETERS; i++) {
        parameters[slot * MOST_PARAMETERS + i] = parameters[SPARE * MOST_PARAMETERS + i];
        needed[slot * MOST_PARAMETERS + i] = needed[SPARE * MOST_PARAMETERS + i];
      }
      bodies[slot].clear();
      bodies[slot].copyWords(bodies[SPARE], 0, bodies[SPARE].size());
      size++;
      if (maskOf(spellings[slot]) == 0 && maskCount < maskNames.length) {
        maskNames[maskCount] = spellings[slot];
        maskCount++;
      }
    }

    private void clearSpare(Row order) {
      spellings[SPARE] = order.spelling(2);
      places[SPARE] = order.place(2, 0);
      counts[SPARE] = NONE;
      more[SPARE] = false;
    }

    /** Takes the BODY that begins there; tells whether it is as it should be. */
    private boolean takeBody(Row order, int body) {
      bodies[SPARE].clear();
      if (order.size() - body > LONGEST_BODY) {
        return false;
      }
      bodies[SPARE].copyWords(order, body, order.size());
      return isGoodBody();
    }

    /** Reads PARAMETERS from behind "(" on; tells where the BODY begins, or NONE, if they are not as they should be. */
    private int readParameters(Row order) {
      counts[SPARE] = 0;
      if (order.isSpelled(4, Texts.CLOSE)) {
        return 5;
      }
      for (int at = 4; at < order.size(); at += 2) {
        int spelling = order.spelling(at);
        boolean last = spelling == Texts.DOTS;
        if (!last && (counts[SPARE] >= MOST_NAMES_BEFORE_MORE || !isFree(spelling)
            || parameterSpelled(SPARE, spelling) != NONE)) {
          return NONE;
        }
        parameters[SPARE * MOST_PARAMETERS + counts[SPARE]] = last ? Texts.MORE : spelling;
        counts[SPARE]++;
        more[SPARE] = last;
        if (order.isSpelled(at + 1, Texts.CLOSE)) {
          return at + 2;
        }
        if (last || !order.isSpelled(at + 1, Texts.COMMA)) {
          return NONE;
        }
      }
      return NONE;
    }

    private boolean isGoodBody() {
      Row body = bodies[SPARE];
      if (body.isSpelled(0, Texts.PASTE) || body.isSpelled(body.size() - 1, Texts.PASTE)) {
        return false;
      }
      for (int i = 0; i < body.size(); i++) {
        if (body.isSpelled(i, Texts.PASTE) && body.isSpelled(i + 1, Texts.PASTE)) {
          return false;
        }
        if (counts[SPARE] != NONE && body.isSpelled(i, Texts.HASH)
            && (i + 1 >= body.size() || parameterSpelled(SPARE, body.spelling(i + 1)) == NONE)) {
          return false;
        }
      }
      return true;
    }

    private void findNeeded() {
      Row body = bodies[SPARE];
      for (int i = 0; i < MOST_PARAMETERS; i++) {
        needed[SPARE * MOST_PARAMETERS + i] = false;
      }
      for (int i = 0; i < body.size(); i++) {
        int parameter = parameterSpelled(SPARE, body.spelling(i));
        if (parameter != NONE && !body.isSpelled(i - 1, Texts.HASH) && !isPasted(SPARE, i)) {
          needed[SPARE * MOST_PARAMETERS + parameter] = true;
        }
      }
    }

    /** Whether a WORD of a BODY stands next to a "##". */
    boolean isPasted(int slot, int word) {
      Row body = bodyOf(slot);
      return body.isSpelled(word - 1, Texts.PASTE) || body.isSpelled(word + 1, Texts.PASTE);
    }

    private boolean isLikeSpare(int slot) {
      Row body = bodies[slot];
      Row other = bodies[SPARE];
      boolean alike = counts[slot] == counts[SPARE] && more[slot] == more[SPARE] && body.isSpelledLike(other);
      for (int i = 0; i < counts[slot] && alike; i++) {
        alike = parameters[slot * MOST_PARAMETERS + i] == parameters[SPARE * MOST_PARAMETERS + i];
      }
      for (int i = 1; i < body.size() && alike; i++) {
        alike = body.isBlank(i) == other.isBlank(i);
      }
      return alike;
    }
  }

  /** A call with its brackets and its arguments, which stand in a row, and the arguments AS TYPED. */
  private static final class Call {
    private static final int MOST_ARGUMENTS = 5;

    private int name = NONE;
    private int word;
    private int close;
    private int count;
    private int current;
    private final int[] starts = new int[MOST_ARGUMENTS];
    private final int[] ends = new int[MOST_ARGUMENTS];
    private final Row typed = new Row(8);
    private final int[] typedStarts = new int[MOST_ARGUMENTS];
    private final int[] typedEnds = new int[MOST_ARGUMENTS];

    int slot() {
      return name;
    }

    int at() {
      return word;
    }

    int close() {
      return close;
    }

    int count() {
      return count;
    }

    int current() {
      return current;
    }

    Row typed() {
      return typed;
    }

    private static boolean isArgument(int i) {
      return i >= 0 && i < MOST_ARGUMENTS;
    }

    int start(int i) {
      return isArgument(i) ? starts[i] : 0;
    }

    int end(int i) {
      return isArgument(i) ? ends[i] : 0;
    }

    int typedStart(int i) {
      return isArgument(i) ? typedStarts[i] : 0;
    }

    int typedEnd(int i) {
      return isArgument(i) ? typedEnds[i] : 0;
    }

    /** Where an argument stands that was EXPANDED in a row of its own. */
    void setArgument(int i, int start, int end) {
      if (isArgument(i)) {
        starts[i] = start;
        ends[i] = end;
      }
    }

    /** The call of a NAME without PARAMETERS. */
    void setPlain(int slot) {
      name = slot;
      count = 0;
    }

    /**
     * As which the WORD at w of a row that ends ahead of end is REPLACED: the slot of a NAME or BUILT_IN; NONE, if the
     * POINT goes over it. Of a NAME with PARAMETERS the arguments are found then.
     */
    int chosen(Names names, Row row, int w, int end, int open, Tally tally) {
      int spelling = row.spelling(w);
      int slot = Names.isBuiltIn(spelling) ? Names.BUILT_IN : names.find(spelling);
      if (slot == NONE || (row.hidden(w) & names.maskOf(spelling)) != 0) {
        return NONE;
      }
      boolean calls = slot != Names.BUILT_IN && names.hasParameters(slot);
      if (calls && (w + 1 >= end || !row.isSpelled(w + 1, Texts.OPEN))) {
        return NONE;
      }
      if (tally.isSpent()) {
        tally.tellSpent(row, w);
        return NONE;
      }
      if (!calls) {
        return slot;
      }
      int error = NONE;
      close = closing(row, w + 1, end);
      if (close == NONE) {
        error = UNCLOSED;
      } else if (!fits(names.parameters(slot), names.hasMore(slot), row, w + 2)) {
        error = MISFIT;
      } else if (open >= MOST_OPEN) {
        error = NESTED;
      }
      if (error != NONE) {
        tally.addErrorOf(error, row, w);
        return NONE;
      }
      name = slot;
      word = w;
      return slot;
    }

    private static int closing(Row row, int from, int end) {
      int depth = 0;
      for (int i = from; i < end; i++) {
        if (row.isSpelled(i, Texts.OPEN)) {
          depth++;
        } else if (row.isSpelled(i, Texts.CLOSE)) {
          depth--;
          if (depth == 0) {
            return i;
          }
        }
      }
      return NONE;
    }

    /** Finds the arguments that stand from first on to the bracket that closes; tells whether they fit. */
    private boolean fits(int parameters, boolean more, Row row, int first) {
      count = 0;
      if (parameters == 0) {
        return first == close;
      }
      int start = first;
      int depth = 0;
      for (int i = first; i < close; i++) {
        if (row.isSpelled(i, Texts.OPEN)) {
          depth++;
        } else if (row.isSpelled(i, Texts.CLOSE)) {
          depth--;
        } else if (depth == 0 && row.isSpelled(i, Texts.COMMA) && !(more && count == parameters - 1)) {
          if (count >= parameters - 1) {
            return false;
          }
          addArgument(start, i);
          start = i + 1;
        }
      }
      addArgument(start, close);
      if (more && count == parameters - 1) {
        addArgument(close, close);
      }
      return count == parameters;
    }

    private void addArgument(int start, int end) {
      if (count >= 0 && count < MOST_ARGUMENTS) {
        starts[count] = start;
        ends[count] = end;
        count++;
      }
    }

    /** OPENS, with all between the brackets AS TYPED. */
    void begin(Row row) {
      row.makeNewOnesBlank(word + 2, close);
      typed.clear();
      typed.copyWords(row, word + 2, close);
      for (int i = 0; i < count && i < MOST_ARGUMENTS; i++) {
        typedStarts[i] = starts[i] - word - 2;
        typedEnds[i] = ends[i] - word - 2;
      }
      current = 0;
    }

    void nextArgument() {
      current++;
    }

    /** The argument at hand has become longer by so many WORDS. */
    void grow(int by) {
      for (int i = current; i < count && i < MOST_ARGUMENTS; i++) {
        ends[i] += by;
        if (i > current) {
          starts[i] += by;
        }
      }
      close += by;
    }
  }

  /** Makes what COMES IN. */
  private static final class Incoming {
    private static final int MOST = 30;
    private static final int NOT_KEPT = MOST + 1;

    private final Texts texts;
    private final Names names;
    private final Row made = new Row(NOT_KEPT + 1);
    private final Row next = new Row(16);

    Incoming(Texts texts, Names names) {
      this.texts = texts;
      this.names = names;
    }

    /** What comes in for the WORD at w of a row; the arguments of its call stand EXPANDED in the row done. */
    Row make(Call call, Row done, Row row, int w, Tally tally) {
      Row body = names.bodyOf(call.slot());
      made.clear();
      boolean pastes = false;
      for (int i = 0; i < body.size(); i++) {
        if (body.isSpelled(i, Texts.PASTE)) {
          pastes = true;
          continue;
        }
        if (names.hasParameters(call.slot()) && body.isSpelled(i, Texts.HASH)) {
          takeWord(body, i, row, w);
          i++;
          int quoted = names.parameterSpelled(call.slot(), body.spelling(i));
          next.setSpelling(0, texts.quotedRow(call.typed(), call.typedStart(quoted), call.typedEnd(quoted)));
        } else {
          int parameter = names.parameterSpelled(call.slot(), body.spelling(i));
          if (parameter == NONE) {
            takeWord(body, i, row, w);
          } else {
            takeArgument(call, done, parameter, names.isPasted(call.slot(), i));
            next.setMarks(0, body.marks(i));
          }
        }
        int both = pastes ? texts.joined(made.spelling(made.size() - 1), next.spelling(0)) : Texts.NOTHING;
        append(pastes ? takePasted(both, row, w, tally) : 0);
        pastes = false;
      }
      complete(row, w, tally);
      return made;
    }

    private void takeWord(Row body, int i, Row row, int w) {
      next.clear();
      next.copyWords(body, i, i + 1);
      next.setTold(0, row.toldFile(w), row.toldLine(w));
    }

    /** Next to a "##" an argument without WORDS is an EMPTY mark: a WORD spelled as NOTHING. */
    private void takeArgument(Call call, Row done, int parameter, boolean pasted) {
      next.clear();
      if (!pasted) {
        next.copyWords(done, call.start(parameter), call.end(parameter));
        return;
      }
      next.copyWords(call.typed(), call.typedStart(parameter), call.typedEnd(parameter));
      if (next.size() == 0) {
        next.add(Texts.NOTHING, 0, 0, 0, 0);
      }
    }

    /** What was made last becomes what PASTING gives; tells how many of the next ones it took. */
    private int takePasted(int both, Row row, int w, Tally tally) {
      int last = made.size() - 1;
      int one = made.spelling(last);
      int other = next.spelling(0);
      if (one == Texts.NOTHING) {
        made.setWord(last, next, 0);
        return 1;
      }
      if (other == Texts.NOTHING) {
        return 1;
      }
      if (!texts.isOneWord(one, other)) {
        next.setMarks(0, 0);
        tally.addError(NO_WORD, row.toldFile(w), row.toldLine(w), both);
        return 0;
      }
      made.setSpelling(last, both);
      made.hide(last, next.hidden(0));
      return 1;
    }

    private void append(int first) {
      for (int i = first; i < next.size(); i++) {
        int last = made.size() - 1;
        // of what will be cut off only the last WORD can still matter, to a "##"
        if (last >= NOT_KEPT || made.isSpelled(last, Texts.NOTHING)) {
          made.setWord(last, next, i);
        } else {
          made.copyWords(next, i, i + 1);
        }
      }
    }

    private void complete(Row row, int w, Tally tally) {
      int last = made.size() - 1;
      if (made.isSpelled(last, Texts.NOTHING)) {
        made.takeOut(last, last + 1);
      }
      if (made.size() > MOST) {
        made.takeOut(MOST, made.size());
        tally.addErrorOf(CUT, row, w);
      }
      int hidden = row.hidden(w) | names.maskOf(row.spelling(w));
      for (int i = 0; i < made.size(); i++) {
        made.hide(i, hidden);
        made.lengthenChain(i, row, w);
      }
      made.setMarks(0, row.marks(w));
    }
  }

  /** A row that is EXPANDED in place, LOOK by LOOK. */
  private static final class Expander {
    private final Names names;
    private final Texts texts;
    private final Incoming incoming;
    private final Row row = new Row(32);
    private final Tally tally = new Tally();
    private final Call[] calls = new Call[MOST_OPEN + 1];
    private int point;
    private int open;

    Expander(Texts texts, Names names, Incoming incoming) {
      this.texts = texts;
      this.names = names;
      this.incoming = incoming;
      for (int i = 0; i <= MOST_OPEN; i++) {
        calls[i] = new Call();
      }
    }

    Row row() {
      return row;
    }

    Tally tally() {
      return tally;
    }

    int point() {
      return point;
    }

    int open() {
      return open;
    }

    void movePoint(int to) {
      if (to >= 0 && to <= row.size()) {
        point = to;
      }
    }

    /** Begins with a copy of a row, and with nothing counted. */
    void begin(Row from) {
      row.clear();
      row.copyWords(from, 0, from.size());
      tally.clear();
      restart();
    }

    /** Begins with what is in the row, and goes on counting. */
    void restart() {
      point = 0;
      open = 0;
    }

    /** A LOOK; tells its code. */
    int look() {
      Call inner = calls[open > 0 && open <= MOST_OPEN ? open - 1 : 0];
      if (open > 0 && !hasWordAtHand(inner)) {
        open--;
        int w = inner.at();
        putIn(w, inner.close() + 1, incoming.make(inner, row, row, w, tally));
        return LOOK_CLOSES;
      }
      int end = endAtHand();
      if (point >= end) {
        return LOOK_NOTHING;
      }
      Call next = calls[Math.min(open, MOST_OPEN)];
      int slot = next.chosen(names, row, point, end, open, tally);
      if (slot == NONE) {
        point++;
        return LOOK_OVER;
      }
      tally.addStep(row.spelling(point));
      if (slot == Names.BUILT_IN) {
        row.setSpelling(point, texts.builtIn(row, point, tally));
        point++;
        return LOOK_BUILT_IN;
      }
      if (names.hasParameters(slot)) {
        next.begin(row);
        open++;
        point += 2;
        return LOOK_OPENS;
      }
      next.setPlain(slot);
      putIn(point, point + 1, incoming.make(next, row, row, point, tally));
      return LOOK_PLAIN;
    }

    /** The ROW AT HAND ends there. */
    private int endAtHand() {
      Call inner = calls[open > 0 && open <= MOST_OPEN ? open - 1 : 0];
      return open > 0 ? inner.end(inner.current()) : row.size();
    }

    /** Goes to the argument in which a WORD is to be looked at next; tells whether there is one. */
    private boolean hasWordAtHand(Call call) {
      for (int i = call.current(); i < call.count(); i++) {
        if (names.isNeeded(call.slot(), i) && point < call.end(i)) {
          return true;
        }
        call.nextArgument();
        point = i + 1 < call.count() ? call.start(i + 1) : point;
      }
      return false;
    }

    private void putIn(int first, int end, Row made) {
      int marks = row.marks(first);
      row.putIn(first, end, made);
      for (int i = 0; i < open && i < MOST_OPEN; i++) {
        calls[i].grow(made.size() - (end - first));
      }
      point = first;
      if (made.size() == 0 && point < endAtHand()) {
        row.setMarks(point, row.marks(point) | marks);
      }
    }
  }

  /** The other way to EXPAND a row: in copies, the NEEDED arguments of a call first, each while the call is OPEN. */
  private static final class Copies {
    private final Names names;
    private final Texts texts;
    private final Incoming incoming;
    private final Tally tally = new Tally();
    /** By how many calls are OPEN: the row, the call in it, and the arguments of that, EXPANDED. */
    private final Row[] rows = new Row[MOST_OPEN + 1];
    private final Call[] calls = new Call[MOST_OPEN + 1];
    private final Row[] arguments = new Row[MOST_OPEN + 1];

    Copies(Texts texts, Names names, Incoming incoming) {
      this.texts = texts;
      this.names = names;
      this.incoming = incoming;
      for (int i = 0; i <= MOST_OPEN; i++) {
        rows[i] = new Row(16);
        calls[i] = new Call();
        arguments[i] = new Row(8);
      }
    }

    Row row() {
      return rows[0];
    }

    Tally tally() {
      return tally;
    }

    void begin(Row from) {
      tally.clear();
      rows[0].clear();
      rows[0].copyWords(from, 0, from.size());
    }

    /** EXPANDS the row around which so many calls are OPEN. */
    private void expand(int open) {
      if (open < 0 || open > MOST_OPEN) {
        return;
      }
      Row row = rows[open];
      Row done = arguments[open];
      Call call = calls[open];
      int at = 0;
      for (int i = 0; i < MANY && at < row.size(); i++) {
        int slot = call.chosen(names, row, at, row.size(), open, tally);
        if (slot == NONE) {
          at++;
          continue;
        }
        tally.addStep(row.spelling(at));
        if (slot == Names.BUILT_IN) {
          row.setSpelling(at, texts.builtIn(row, at, tally));
          at++;
          continue;
        }
        int end = openCall(call, slot, row, at);
        done.clear();
        for (int k = 0; k < call.count() && open < MOST_OPEN; k++) {
          int start = done.size();
          if (names.isNeeded(slot, k)) {
            Row inner = rows[open + 1];
            inner.clear();
            inner.copyWords(call.typed(), call.typedStart(k), call.typedEnd(k));
            expand(open + 1);
            done.copyWords(inner, 0, inner.size());
          }
          call.setArgument(k, start, done.size());
        }
        putIn(row, at, end, incoming.make(call, done, row, at, tally));
      }
    }

    /** Begins to REPLACE a WORD; tells the end of what is taken out for it. */
    private int openCall(Call call, int slot, Row row, int at) {
      if (!names.hasParameters(slot)) {
        call.setPlain(slot);
        return at + 1;
      }
      call.begin(row);
      return call.close() + 1;
    }

    private static void putIn(Row row, int at, int end, Row made) {
      int marks = row.marks(at);
      row.putIn(at, end, made);
      if (made.size() == 0) {
        row.setMarks(at, row.marks(at) | marks);
      }
    }
  }

  /** Reads a row as a condition and reckons it, by two stacks and without recursion: brackets may nest at will. */
  private static final class Condition {
    static final int GOOD = 0;
    /** None of the values that 32 bits hold. */
    private static final long NO_VALUE = 1099511627776L;
    private static final int RANK_OF_BRACKET = 0;
    private static final int RANK_OF_CHOICE = 1;
    private static final int RANK_AHEAD = 12;
    /** From "?" to "~"; 0 for those that stand only ahead of an operand. */
    private static final byte[] RANKS = {1, 1, 2, 3, 4, 5, 6, 7, 7, 8, 8, 8, 8, 9, 9, 10, 10, 11, 11, 11, 0, 0};

    private final Texts texts;
    private final Names names;
    private long[] values = new long[32];
    private int valueCount;
    /** Spellings of operators, negative where they stand ahead of an operand. */
    private int[] operators = new int[32];
    private int operatorCount;
    private int result;
    private int badNumber;
    private int[] looked = new int[16];
    private int lookedCount;

    Condition(Texts texts, Names names) {
      this.texts = texts;
      this.names = names;
    }

    int result() {
      return result;
    }

    /** The NUMBER without a value that judge() met. */
    int badNumber() {
      return badNumber;
    }

    int lookedCount() {
      return lookedCount;
    }

    /** A NAME that settleDefined() looked up. */
    int lookedAt(int i) {
      return i >= 0 && i < lookedCount ? looked[i] : Texts.NOTHING;
    }

    /** Each "defined" with its NAME becomes 1 or 0; false, if one is bad. */
    boolean settleDefined(Row row) {
      lookedCount = 0;
      for (int i = 0; i < row.size(); i++) {
        if (!row.isSpelled(i, Texts.DEFINED)) {
          continue;
        }
        boolean inBrackets = row.isSpelled(i + 1, Texts.OPEN);
        int at = inBrackets ? i + 2 : i + 1;
        if (at >= row.size() || texts.kind(row.spelling(at)) != NAME
            || inBrackets && !row.isSpelled(at + 1, Texts.CLOSE)) {
          return false;
        }
        int spelling = row.spelling(at);
        noteLooked(spelling);
        row.setSpelling(i, names.isKnown(spelling) ? Texts.ONE : Texts.ZERO);
        row.takeOut(i + 1, inBrackets ? at + 2 : at + 1);
      }
      return true;
    }

    private void noteLooked(int spelling) {
      if (lookedCount >= looked.length) {
        looked = Arrays.copyOf(looked, 2 * looked.length);
      }
      looked[lookedCount] = spelling;
      lookedCount++;
    }

    /** GOOD, and result() is what the row comes to; or the KIND of its error. */
    int judge(Row row) {
      makeRoom(row.size() + 1);
      valueCount = 0;
      operatorCount = 0;
      boolean wantsOperand = true;
      for (int i = 0; i < row.size(); i++) {
        int spelling = row.spelling(i);
        int kind = texts.kind(spelling);
        if (!wantsOperand) {
          if (!takeOperator(spelling)) {
            return BAD_CONDITION;
          }
          wantsOperand = spelling != Texts.CLOSE;
        } else if (kind == NAME || kind == NUMBER) {
          int value = kind == NAME ? 0 : texts.value(spelling);
          if (value < 0) {
            badNumber = spelling;
            return BAD_NUMBER;
          }
          pushValue(value);
          wantsOperand = false;
        } else if (spelling == Texts.OPEN) {
          pushOperator(spelling);
        } else if (isAheadOfOperand(spelling)) {
          pushOperator(-spelling);
        } else {
          return BAD_CONDITION;
        }
      }
      if (wantsOperand || !reduceAll() || valueCount != 1 || values[0] == NO_VALUE) {
        return BAD_CONDITION;
      }
      result = (int) values[0];
      return GOOD;
    }

    private void makeRoom(int words) {
      if (words > values.length) {
        values = new long[2 * words];
        operators = new int[2 * words];
      }
    }

    private void pushValue(long value) {
      if (valueCount < values.length) {
        values[valueCount] = value;
        valueCount++;
      }
    }

    private void pushOperator(int operator) {
      if (operatorCount < operators.length) {
        operators[operatorCount] = operator;
        operatorCount++;
      }
    }

    private static boolean isAheadOfOperand(int spelling) {
      return spelling == Texts.NOT || spelling == Texts.TURNED || spelling == Texts.PLUS || spelling == Texts.MINUS;
    }

    private static int rank(int operator) {
      if (operator < 0) {
        return RANK_AHEAD;
      }
      int i = operator - Texts.QUESTION;
      return i >= 0 && i < RANKS.length ? RANKS[i] : RANK_OF_BRACKET;
    }

    private int topOperator() {
      return operatorCount > 0 && operatorCount <= operators.length ? operators[operatorCount - 1] : Texts.OPEN;
    }

    /** Takes what stands behind an operand; false, if nothing goes on so. */
    private boolean takeOperator(int spelling) {
      if (spelling == Texts.CLOSE) {
        reduce(RANK_OF_CHOICE);
        return takeOff(Texts.OPEN);
      }
      if (spelling == Texts.COLON) {
        reduce(RANK_OF_CHOICE);
        boolean good = takeOff(Texts.QUESTION);
        pushOperator(Texts.COLON);
        return good;
      }
      int rank = rank(spelling);
      if (rank == RANK_OF_BRACKET) {
        return false;
      }
      reduce(rank == RANK_OF_CHOICE ? rank + 1 : rank);
      pushOperator(spelling);
      return true;
    }

    /** Takes an operator off, if it is the top one. */
    private boolean takeOff(int operator) {
      if (operatorCount == 0 || topOperator() != operator) {
        return false;
      }
      operatorCount--;
      return true;
    }

    private boolean reduceAll() {
      reduce(RANK_OF_CHOICE);
      return operatorCount == 0;
    }

    /** Does all operators on top that bind at least so tightly; a "?" waits for its ":". */
    private void reduce(int rank) {
      for (int i = 0; i < MANY && operatorCount > 0; i++) {
        int operator = topOperator();
        if (operator == Texts.QUESTION || rank(operator) < rank) {
          return;
        }
        operatorCount--;
        int operands = operator < 0 ? 1 : operator == Texts.COLON ? 3 : 2;
        if (valueCount < operands) {
          return;
        }
        valueCount -= operands;
        long first = values[valueCount];
        long second = operands > 1 ? values[valueCount + 1] : 0;
        long third = operands > 2 ? values[valueCount + 2] : 0;
        pushValue(operands == 1 ? turned(-operator, first)
            : operands == 2 ? reckoned(operator, first, second)
            : first == NO_VALUE ? NO_VALUE : first != 0 ? second : third);
      }
    }

    private static long turned(int operator, long value) {
      if (value == NO_VALUE) {
        return NO_VALUE;
      }
      int v = (int) value;
      switch (operator) {
        case Texts.NOT: return v == 0 ? 1 : 0;
        case Texts.MINUS: return -v;
        case Texts.TURNED: return ~v;
        default: return v;
      }
    }

    private static long reckoned(int operator, long left, long right) {
      if (operator == Texts.AND_THEN && left == 0) {
        return 0;
      }
      if (operator == Texts.OR_ELSE && left != 0 && left != NO_VALUE) {
        return 1;
      }
      if (left == NO_VALUE || right == NO_VALUE) {
        return NO_VALUE;
      }
      int a = (int) left;
      int b = (int) right;
      switch (operator) {
        case Texts.AND_THEN:
        case Texts.OR_ELSE: return b != 0 ? 1 : 0;
        case Texts.OR: return a | b;
        case Texts.XOR: return a ^ b;
        case Texts.AND: return a & b;
        case Texts.LEFT: return a << (b & 31);
        case Texts.RIGHT: return a >> (b & 31);
        case Texts.PLUS: return a + b;
        case Texts.MINUS: return a - b;
        case Texts.TIMES: return a * b;
        case Texts.DIVIDED: return b == 0 ? NO_VALUE : a / b;
        case Texts.REST: return b == 0 ? NO_VALUE : a % b;
        case Texts.SAME: return a == b ? 1 : 0;
        case Texts.OTHER: return a != b ? 1 : 0;
        case Texts.LESS: return a < b ? 1 : 0;
        case Texts.AT_MOST: return a <= b ? 1 : 0;
        case Texts.GREATER: return a > b ? 1 : 0;
        default: return a >= b ? 1 : 0;
      }
    }
  }

  /** A RUN: it goes on till a row has to be EXPANDED, and takes up again with that row. */
  private static final class Runner {
    static final int OUT_LINES = 1;
    static final int LEANS = 10;
    static final int UNUSED = 11;
    private static final int ENTERED = 5;
    private static final int GREATEST_DEPTH = 6;
    private static final int ASKED = 8;
    private static final int SKIPPED = 9;
    private static final int MOST_HIDDEN = 12;
    private static final int OF_FILE = 13;
    private static final int TOTALS = 14;

    private static final int DEEPEST = 3;
    private static final int MOST_ENTERED = 8;

    /** What is kept of each FILE that is ENTERED. */
    private static final int FILE_AT = 0;
    private static final int NEXT_LINE = 1;
    private static final int TOLD_FILE = 2;
    private static final int TOLD_BY = 3;
    private static final int FIRST_IF = 4;
    private static final int FRAME = 5;

    /** What is kept of each IF that is open. */
    private static final int IS_ON = 0;
    private static final int IS_DONE = 1;
    private static final int HAD_ELSE = 2;
    private static final int IF_FILE = 3;
    private static final int IF_LINE = 4;
    private static final int IF_TEXT = 5;
    private static final int IF = 6;

    private static final int NOTHING_AHEAD = 0;
    private static final int BLOCK = 1;
    private static final int ASKING = 2;
    private static final int INCLUDING = 3;
    private static final int RENUMBERING = 4;

    private final Texts texts;
    private final Typing typing;
    private final Names names;
    private final Condition condition;
    /** Its row is the BLOCK, or what of an ORDER is EXPANDED; an ORDER ends a BLOCK, so both never meet. */
    private final Expander expander;
    private final Row out = new Row(32);
    private final Row read = new Row(16);
    private final StringBuilder text = new StringBuilder();
    private int orderText;
    private final int[] totals = new int[TOTALS];
    private final int[] entered = new int[FILES];
    private final boolean[] once = new boolean[FILES];
    private final int[] frames = new int[(DEEPEST + 1) * FRAME];
    private int depth = NONE;
    private final int[] ifs = new int[(DEEPEST + 1) * LINES * IF];
    private int ifCount;
    private int pending;
    private int[] leans = new int[16];
    private int leanCount;

    Runner(Texts texts, Typing typing, Names names, Condition condition, Expander expander) {
      this.texts = texts;
      this.typing = typing;
      this.names = names;
      this.condition = condition;
      this.expander = expander;
      totals[OF_FILE] = NONE;
    }

    Expander expander() {
      return expander;
    }

    Tally tally() {
      return expander.tally();
    }

    Row out() {
      return out;
    }

    int total(int what) {
      return what >= 0 && what < TOTALS ? totals[what] : 0;
    }

    int timesEntered(int file) {
      return file >= 0 && file < FILES ? entered[file] : 0;
    }

    boolean saidOnce(int file) {
      return file >= 0 && file < FILES && once[file];
    }

    int wordsFrom(int file) {
      int words = 0;
      for (int i = 0; i < out.size(); i++) {
        if (out.place(i, 0) / 10000 == file) {
          words++;
        }
      }
      return words;
    }

    /** Where an OUT LINE begins; behind the last one the end. */
    int startOfLine(int n) {
      int lines = 0;
      for (int i = 0; i < out.size(); i++) {
        if (out.isNew(i)) {
          if (lines == n) {
            return i;
          }
          lines++;
        }
      }
      return out.size();
    }

    int leanAt(int i) {
      return i >= 0 && i < leanCount ? leans[i] : Texts.NOTHING;
    }

    int unusedAt(int i) {
      int found = 0;
      for (int rank = 0; rank < names.size(); rank++) {
        int spelling = names.spelling(names.ranked(rank));
        if (tally().timesReplaced(spelling) == 0) {
          if (found == i) {
            return spelling;
          }
          found++;
        }
      }
      return Texts.NOTHING;
    }

    boolean isOutSound() {
      int replaced = 0;
      for (int i = 0; i < tally().steps(); i++) {
        replaced |= names.maskOf(tally().replaced(i));
      }
      for (int i = 0; i < out.size(); i++) {
        if (out.places(i) == 0 || (out.hidden(i) & ~replaced) != 0) {
          return false;
        }
      }
      return true;
    }

    void begin(int file) {
      names.clear();
      out.clear();
      read.clear();
      expander.begin(read);
      Arrays.fill(totals, 0);
      Arrays.fill(entered, 0);
      for (int i = 0; i < FILES; i++) {
        once[i] = false;
      }
      totals[OF_FILE] = file;
      leanCount = 0;
      ifCount = 0;
      depth = NONE;
      pending = NOTHING_AHEAD;
      enter(file);
    }

    /** Reckons what is told of the RUN. */
    void end() {
      totals[0] = out.size();
      for (int i = 0; i < out.size(); i++) {
        totals[OUT_LINES] += out.isNew(i) ? 1 : 0;
        totals[MOST_HIDDEN] = Math.max(totals[MOST_HIDDEN], Integer.bitCount(out.hidden(i)));
      }
      totals[2] = tally().errors();
      totals[3] = tally().steps();
      totals[4] = names.size();
      totals[7] = tally().count();
      for (int i = 0; i < tally().steps(); i++) {
        addLean(tally().replaced(i));
      }
      totals[LEANS] = leanCount;
      for (int rank = 0; rank < names.size(); rank++) {
        int spelling = names.spelling(names.ranked(rank));
        totals[UNUSED] += tally().timesReplaced(spelling) == 0 ? 1 : 0;
      }
    }

    /** Keeps LEANS by the order of spellings. */
    private void addLean(int spelling) {
      int at = 0;
      for (; at < leanCount && texts.compare(leans[at], spelling) < 0; at++) {
        // those ahead stay
      }
      if (at < leanCount && leans[at] == spelling) {
        return;
      }
      if (leanCount >= leans.length) {
        leans = Arrays.copyOf(leans, 2 * leans.length);
      }
      System.arraycopy(leans, at, leans, at + 1, leanCount - at);
      leans[at] = spelling;
      leanCount++;
    }

    private int frame(int field) {
      return depth >= 0 && depth <= DEEPEST ? frames[depth * FRAME + field] : 0;
    }

    private void setFrame(int field, int value) {
      if (depth >= 0 && depth <= DEEPEST) {
        frames[depth * FRAME + field] = value;
      }
    }

    private void enter(int file) {
      if (depth >= DEEPEST || file < 0 || file >= FILES) {
        return;
      }
      depth++;
      setFrame(FILE_AT, file);
      setFrame(NEXT_LINE, 0);
      setFrame(TOLD_FILE, file);
      setFrame(TOLD_BY, 0);
      setFrame(FIRST_IF, ifCount);
      entered[file]++;
      totals[ENTERED]++;
      totals[GREATEST_DEPTH] = Math.max(totals[GREATEST_DEPTH], depth);
    }

    private void leave() {
      for (int i = ifCount - 1; i >= frame(FIRST_IF); i--) {
        tally().addError(OPEN_IF, ofIf(i, IF_FILE), ofIf(i, IF_LINE), ofIf(i, IF_TEXT));
      }
      ifCount = frame(FIRST_IF);
      depth--;
    }

    /** Goes on till a row has to be EXPANDED, which stands in the expander then; false at the end of the RUN. */
    boolean goesOn() {
      pending = NOTHING_AHEAD;
      for (int i = 0; i < MANY && depth >= 0 && pending == NOTHING_AHEAD; i++) {
        int file = frame(FILE_AT);
        int line = frame(NEXT_LINE);
        boolean atEnd = line >= typing.lines(file);
        if (!atEnd) {
          readLine(file, line);
        }
        boolean isOrder = !atEnd && read.isSpelled(0, Texts.HASH);
        if ((atEnd || isOrder) && expander.row().size() > 0) {
          expandAs(BLOCK);
        } else if (atEnd) {
          leave();
        } else {
          setFrame(NEXT_LINE, typing.lastJoined() + 1);
          int what = isOrder ? read.spelling(1) : Texts.NOTHING;
          if (isOrder) {
            spellOrder();
          }
          if (what >= Texts.IF && what <= Texts.IFNDEF) {
            openIf(what);
          } else if (what >= Texts.ELIF && what <= Texts.ENDIF) {
            changeIf(what);
          } else if (!isTaken()) {
            totals[SKIPPED] += read.size() > 0 ? 1 : 0;
          } else if (isOrder) {
            obey(what);
          } else {
            expander.row().copyWords(read, 0, read.size());
          }
        }
      }
      return pending != NOTHING_AHEAD;
    }

    private void readLine(int file, int line) {
      read.clear();
      typing.join(file, line, texts.fresh());
      texts.readInto(read, typing.places(), frame(TOLD_FILE), line + frame(TOLD_BY), Row.NEW);
    }

    private void spellOrder() {
      text.setLength(0);
      texts.textOut(read, 0, read.size(), Texts.LONGEST, text);
      orderText = texts.keep(text, 0, text.length());
    }

    private void expandAs(int what) {
      expander.restart();
      pending = what;
    }

    /** What stands in an ORDER from a WORD on has to be EXPANDED. */
    private void expandRest(int first, int what) {
      expander.row().clear();
      expander.row().copyWords(read, first, read.size());
      expandAs(what);
    }

    /** Takes up again with the row that was EXPANDED. */
    void takeUp() {
      Row row = expander.row();
      switch (pending) {
        case BLOCK:
          out.copyWords(row, 0, row.size());
          break;
        case ASKING:
          decide();
          break;
        case INCLUDING:
          include(row);
          break;
        default:
          renumber(row);
          break;
      }
      row.clear();
    }

    private void fail(int kind) {
      tally().addError(kind, read.toldFile(0), read.toldLine(0), orderText);
    }

    private void fail(int kind, int said) {
      tally().addError(kind, read.toldFile(0), read.toldLine(0), said);
    }

    private boolean isTaken() {
      boolean taken = true;
      for (int i = frame(FIRST_IF); i < ifCount && taken; i++) {
        taken = ofIf(i, IS_ON) == 1;
      }
      return taken;
    }

    private int ofIf(int i, int field) {
      return i >= 0 && i < ifCount && (i + 1) * IF <= ifs.length ? ifs[i * IF + field] : 0;
    }

    private void setIf(int i, int field, int value) {
      if (i >= 0 && i < ifCount && (i + 1) * IF <= ifs.length) {
        ifs[i * IF + field] = value;
      }
    }

    /** Does an ORDER that has nothing to do with IFS. */
    private void obey(int what) {
      switch (what) {
        case Texts.NOTHING:
          break;
        case Texts.DEFINE:
          int kind = names.define(read);
          if (kind != Names.GOOD) {
            fail(kind, kind == BAD_ORDER ? orderText : read.spelling(2));
          }
          break;
        case Texts.UNDEF:
          if (!names.undefine(read)) {
            fail(BAD_ORDER);
          }
          break;
        case Texts.INCLUDE:
          expandRest(2, INCLUDING);
          break;
        case Texts.ONCE:
          once[frame(FILE_AT)] = true;
          break;
        case Texts.RENUMBER:
          expandRest(2, RENUMBERING);
          break;
        case Texts.ERROR:
          text.setLength(0);
          texts.textOut(read, 2, read.size(), Texts.LONGEST, text);
          fail(TOLD_ERROR, texts.keep(text, 0, text.length()));
          break;
        default:
          fail(BAD_ORDER);
          break;
      }
    }

    private void openIf(int what) {
      boolean taken = isTaken();
      if ((ifCount + 1) * IF > ifs.length) {
        return;
      }
      ifCount++;
      int last = ifCount - 1;
      setIf(last, IS_ON, 0);
      setIf(last, IS_DONE, taken ? 0 : 1);
      setIf(last, HAD_ELSE, 0);
      setIf(last, IF_FILE, read.toldFile(0));
      setIf(last, IF_LINE, read.toldLine(0));
      setIf(last, IF_TEXT, orderText);
      if (taken && what == Texts.IF) {
        ask();
      } else if (taken) {
        askForName(what == Texts.IFDEF);
      }
    }

    private void askForName(boolean wanted) {
      totals[ASKED]++;
      if (read.size() != 3 || texts.kind(read.spelling(2)) != NAME) {
        fail(BAD_ORDER);
        return;
      }
      addLean(read.spelling(2));
      if (names.isKnown(read.spelling(2)) == wanted) {
        turnOn();
      }
    }

    private void ask() {
      totals[ASKED]++;
      expandRest(2, ASKING);
      boolean good = condition.settleDefined(expander.row());
      for (int i = 0; i < condition.lookedCount(); i++) {
        addLean(condition.lookedAt(i));
      }
      if (!good) {
        expander.row().clear();
        pending = NOTHING_AHEAD;
        fail(BAD_CONDITION);
      }
    }

    private void decide() {
      int error = condition.judge(expander.row());
      if (error == BAD_NUMBER) {
        fail(error, condition.badNumber());
      } else if (error != Condition.GOOD) {
        fail(error);
      } else if (condition.result() != 0) {
        turnOn();
      }
    }

    private void turnOn() {
      setIf(ifCount - 1, IS_ON, 1);
      setIf(ifCount - 1, IS_DONE, 1);
    }

    private void changeIf(int what) {
      int last = ifCount - 1;
      if (last < frame(FIRST_IF) || what != Texts.ENDIF && ofIf(last, HAD_ELSE) == 1) {
        fail(STRAY);
        return;
      }
      boolean done = ofIf(last, IS_DONE) == 1;
      switch (what) {
        case Texts.ENDIF:
          ifCount--;
          break;
        case Texts.ELSE:
          setIf(last, IS_ON, done ? 0 : 1);
          setIf(last, IS_DONE, 1);
          setIf(last, HAD_ELSE, 1);
          break;
        default:
          setIf(last, IS_ON, 0);
          if (!done) {
            ask();
          }
          break;
      }
    }

    /** Whether a row is so many NUMBERS, with a value each; if not, the error is told. */
    private boolean areNumbers(Row row, int least, int most) {
      boolean numbers = row.size() >= least && row.size() <= most;
      for (int i = 0; i < row.size() && numbers; i++) {
        numbers = texts.kind(row.spelling(i)) == NUMBER;
      }
      if (!numbers) {
        fail(BAD_ORDER);
        return false;
      }
      for (int i = 0; i < row.size(); i++) {
        if (texts.value(row.spelling(i)) < 0) {
          fail(BAD_NUMBER, row.spelling(i));
          return false;
        }
      }
      return true;
    }

    private void include(Row row) {
      if (!areNumbers(row, 1, 1)) {
        return;
      }
      int file = texts.value(row.spelling(0));
      if (file >= FILES) {
        fail(BAD_ORDER);
        return;
      }
      if (saidOnce(file)) {
        return;
      }
      if (depth >= DEEPEST || totals[ENTERED] >= MOST_ENTERED) {
        fail(DEEP);
        return;
      }
      enter(file);
    }

    private void renumber(Row row) {
      if (!areNumbers(row, 1, 2)) {
        return;
      }
      int line = texts.value(row.spelling(0));
      int file = row.size() > 1 ? texts.value(row.spelling(1)) : frame(TOLD_FILE);
      if (line > 9999 || file > 99) {
        fail(BAD_ORDER);
        return;
      }
      setFrame(TOLD_BY, line - frame(NEXT_LINE));
      setFrame(TOLD_FILE, file);
    }
  }
}
