import java.util.Arrays;

/** A finder of regular expressions in files: ../shared/DOC.md says what each call promises. */
public final class GramFinder {
  public static final int NONE = -1;

  private static final int MAX_TAPE = 1000;
  private static final int FED = 20;
  private static final int MAX_COME = 200;
  private static final int MAX_THERE = 40;
  private static final int MAX_TOGETHER = 16000;
  private static final int MAX_REGEX = 80;
  private static final int MAX_NUMBER = 20;
  private static final int MAX_PARENS = 10;
  private static final int MAX_SIZE = 200;
  private static final int MAX_CHOICES = 24;
  private static final int MAX_ENDS = 12;
  private static final int MAX_TEXTS = 8;
  private static final int MAX_TEXT = 60;

  private static final int FORM = 1;
  private static final int ORDER = 2;
  private static final int MUCH = 3;

  // A byte of a regex makes two nodes at most (a parenthesis: an ALT and a CAT), the whole two more.
  private static final int MAX_NODES = 2 * MAX_REGEX + 8;
  // As many states as the regex has SIZE, and the one where it has matched.
  private static final int MAX_STATES = MAX_SIZE + 2;
  // An ALT, a CAT and a REPEAT for each open parenthesis and for the whole, and some to spare.
  private static final int MAX_LEVELS = 3 * (MAX_PARENS + 1) + 5;
  // Far above what counts as MUCH; a size is held at it, so that no product runs over.
  private static final int SIZE_CAP = 1000000;

  private static final int LINE_BREAK = 10;
  private static final int TAB = 9;
  private static final int NO_BYTE = -1;
  // One more than the 256 bytes: a sign of an end's key is a byte and 1, or 0 where there is none.
  private static final int KEY = 257;

  private static final int ALT = 0;
  private static final int CAT = 1;
  private static final int REPEAT = 2;
  private static final int BYTES = 3;
  private static final int LINE_FRONT = 4;
  private static final int LINE_BACK = 5;
  private static final int WORD_EDGE = 6;
  private static final int SPLIT = 7;
  private static final int MATCH = 8;

  private final byte[] tape;
  private int tapeLength;
  private final Shelf shelf;
  private final Parser parser;
  private final Planner planner;
  private final Machine machine;
  private final Report report;

  public GramFinder() {
    tape = new byte[MAX_TAPE];
    shelf = new Shelf();
    parser = new Parser();
    planner = new Planner(parser.tree);
    machine = new Machine(parser.tree);
    report = new Report();
  }

  public int feed(int a, int b, int c, int d, int e) {
    if (tapeLength + FED > MAX_TAPE) {
      return NONE;
    }
    writeNumber(a);
    writeNumber(b);
    writeNumber(c);
    writeNumber(d);
    writeNumber(e);
    return tapeLength;
  }

  public boolean end(int n) {
    if (n < 0 || n > tapeLength) {
      return false;
    }
    tapeLength = n;
    return true;
  }

  public int add() {
    int number = shelf.take(tape, tapeLength);
    if (number != NONE) {
      tapeLength = 0;
    }
    return number;
  }

  public int change(int f) {
    int length = shelf.exchange(f, tape, tapeLength);
    if (length != NONE) {
      tapeLength = 0;
    }
    return length;
  }

  public boolean remove(int f) {
    return shelf.drop(f);
  }

  public int size(int f) {
    Entry entry = shelf.find(f);
    return entry == null ? NONE : entry.bytes.length;
  }

  public int byteAt(int f, int i) {
    Entry entry = shelf.find(f);
    return entry == null ? NONE : byteOf(entry.bytes, i);
  }

  public int posting(int gram, int i) {
    return shelf.holder(gram, i);
  }

  public int search(boolean fold) {
    int length = tapeLength;
    tapeLength = 0;
    parser.read(tape, length, fold);
    if (parser.failure != 0) {
      return NONE;
    }
    planner.plan();
    machine.build();
    report.begin(parser.tree.sizeOf(parser.tree.root()));
    Family want = planner.whole().want;
    for (int f = 0; f < shelf.came; f++) {
      Entry entry = shelf.find(f);
      if (entry != null && want.isMetBy(entry.grams)) {
        report.noteOpened(f);
        machine.seek(entry.bytes);
        if (machine.begin != NONE) {
          report.noteHit(f, machine.begin, machine.finish, entry.lineOf(machine.begin));
        }
      }
    }
    return report.hitMany;
  }

  public int fault(int what) {
    if (what == 0) {
      return parser.failure;
    }
    return what == 1 ? parser.failurePlace : NONE;
  }

  public int hit(int i, int what) {
    return report.hitFact(i, what);
  }

  public int opened(int i) {
    return report.openedNumber(i);
  }

  public int choice(int i) {
    if (report.searches == 0) {
      return NONE;
    }
    Family want = planner.whole().want;
    if (i == NONE) {
      return want.many;
    }
    return i < 0 || i >= want.many ? NONE : want.row(i).many;
  }

  public int gram(int i, int k) {
    Family want = planner.whole().want;
    if (report.searches == 0 || i < 0 || i >= want.many) {
      return NONE;
    }
    return want.row(i).at(k);
  }

  public int texts(int what) {
    if (report.searches == 0) {
      return NONE;
    }
    Part whole = planner.whole();
    switch (what) {
      case 0:
        return whole.exact ? whole.texts.many : 0;
      case 1:
        return whole.heads.many;
      case 2:
        return whole.tails.many;
      default:
        return NONE;
    }
  }

  public int text(int what, int i, int k) {
    if (i < 0 || i >= texts(what)) {
      return NONE;
    }
    Part whole = planner.whole();
    if (what == 0) {
      return whole.texts.signAt(i, k);
    }
    return keySign(what == 1 ? whole.heads.at(i) : whole.tails.at(i), k);
  }

  public int count(int what) {
    switch (what) {
      case 0:
        return shelf.there;
      case 1:
        return shelf.together;
      case 2:
        return shelf.came;
      case 3:
        return shelf.differentGrams();
      case 4:
        return shelf.allGrams();
      case 5:
        return tapeLength;
      case 6:
        return report.searches;
      case 7:
        return report.openedInAll;
      case 8:
        return report.hitsInAll;
      case 9:
        return report.regexSize;
      default:
        return NONE;
    }
  }

  private void writeNumber(int number) {
    for (int shift = 24; shift >= 0; shift -= 8) {
      if (tapeLength >= 0 && tapeLength < tape.length) {
        tape[tapeLength] = (byte) (number >>> shift);
        tapeLength++;
      }
    }
  }

  private static int byteOf(byte[] bytes, int i) {
    return i >= 0 && i < bytes.length ? bytes[i] & 255 : NO_BYTE;
  }

  private static int pick(int[] row, int i) {
    return i >= 0 && i < row.length ? row[i] : NONE;
  }

  private static void store(int[] row, int i, int value) {
    if (i >= 0 && i < row.length) {
      row[i] = value;
    }
  }

  private static boolean isDigit(int sign) {
    return sign >= '0' && sign <= '9';
  }

  private static boolean isLetter(int sign) {
    return sign >= 'a' && sign <= 'z' || sign >= 'A' && sign <= 'Z';
  }

  private static boolean isWord(int sign) {
    return sign >= 'a' && sign <= 'z' || sign >= 'A' && sign <= 'Z' || sign >= '0' && sign <= '9' || sign == '_';
  }

  private static boolean isSpace(int sign) {
    return sign == TAB || sign == LINE_BREAK || sign == ' ';
  }

  private static int gramOf(int a, int b, int c) {
    return a << 16 | b << 8 | c;
  }

  /** The key of a text of two signs at most; keys are ordered as the texts are. */
  private static int keyOf(int first, int second) {
    return (first + 1) * KEY + second + 1;
  }

  private static int keySign(int key, int k) {
    if (k == 0) {
      return key / KEY - 1;
    }
    return k == 1 ? key % KEY - 1 : NONE;
  }

  private static int lastSign(int key) {
    return key % KEY == 0 ? keySign(key, 0) : keySign(key, 1);
  }

  /** Whole numbers; a row filled by insert() alone is a set, and rises. */
  private static final class Row {
    int[] items = new int[8];
    int many;

    int at(int i) {
      return i >= 0 && i < many && i < items.length ? items[i] : NONE;
    }

    void clear() {
      many = 0;
    }

    void push(int item) {
      makeRoom(many + 1);
      if (many >= 0 && many < items.length) {
        items[many] = item;
        many++;
      }
    }

    void insert(int item) {
      int place = placeOf(item);
      if (place < many && at(place) == item) {
        return;
      }
      makeRoom(many + 1);
      if (place >= 0 && place <= many && many < items.length) {
        System.arraycopy(items, place, items, place + 1, many - place);
        items[place] = item;
        many++;
      }
    }

    boolean holds(int item) {
      int place = placeOf(item);
      return place < many && at(place) == item;
    }

    void copyFrom(Row other) {
      makeRoom(other.many);
      many = 0;
      if (other.many >= 0 && other.many <= items.length && other.many <= other.items.length) {
        System.arraycopy(other.items, 0, items, 0, other.many);
        many = other.many;
      }
    }

    void fillFromBoth(Row p, Row q) {
      clear();
      makeRoom(p.many + q.many);
      int i = 0;
      int j = 0;
      for (int step = p.many + q.many; step > 0 && (i < p.many || j < q.many); step--) {
        boolean fromP = j >= q.many || i < p.many && p.at(i) <= q.at(j);
        boolean fromQ = i >= p.many || j < q.many && q.at(j) <= p.at(i);
        push(fromP ? p.at(i) : q.at(j));
        i += fromP ? 1 : 0;
        j += fromQ ? 1 : 0;
      }
    }

    boolean isPartOf(Row other) {
      int j = 0;
      for (int i = 0; i < many; i++) {
        while (j < other.many && other.at(j) < at(i)) {
          j++;
        }
        if (j >= other.many || other.at(j) != at(i)) {
          return false;
        }
      }
      return true;
    }

    boolean isAheadOf(Row other) {
      for (int i = 0; i < many && i < other.many; i++) {
        if (at(i) != other.at(i)) {
          return at(i) < other.at(i);
        }
      }
      return many < other.many;
    }

    /** A bit for each item, so that most rows that are no part of another one are told at once. */
    long mark() {
      long mark = 0;
      for (int i = 0; i < many; i++) {
        mark |= 1L << (at(i) * 0x9E3779B1 >>> 26);
      }
      return mark;
    }

    /** The least place whose item isn't less; each turn halves what is left, 31 at most. */
    private int placeOf(int item) {
      int low = 0;
      int high = many;
      for (int turn = 0; turn < 32 && low < high; turn++) {
        int middle = (low + high) >>> 1;
        if (middle < items.length && items[middle] < item) {
          low = middle + 1;
        } else {
          high = middle;
        }
      }
      return low;
    }

    private void makeRoom(int needed) {
      if (needed > items.length) {
        items = Arrays.copyOf(items, Math.max(needed, 2 * items.length));
      }
    }
  }

  /** A file that is there. */
  private static final class Entry {
    byte[] bytes = new byte[0];
    final Row grams = new Row();

    void fill(byte[] from, int length) {
      if (length < 0 || length > from.length) {
        return;
      }
      bytes = Arrays.copyOf(from, length);
      grams.clear();
      for (int i = 0; i + 2 < length; i++) {
        grams.insert(gramOf(byteOf(bytes, i), byteOf(bytes, i + 1), byteOf(bytes, i + 2)));
      }
    }

    int lineOf(int place) {
      int line = 1;
      for (int i = 0; i < place && i < bytes.length; i++) {
        line += bytes[i] == LINE_BREAK ? 1 : 0;
      }
      return line;
    }
  }

  /** The files. */
  private static final class Shelf {
    private final Entry[] entries = new Entry[MAX_COME];
    private Row union = new Row();
    private Row spare = new Row();
    int came;
    int there;
    int together;

    Entry find(int number) {
      return number >= 0 && number < came && number < entries.length ? entries[number] : null;
    }

    int take(byte[] from, int length) {
      if (there >= MAX_THERE || came >= MAX_COME || together + length > MAX_TOGETHER) {
        return NONE;
      }
      Entry entry = new Entry();
      entry.fill(from, length);
      int number = came;
      if (number >= 0 && number < entries.length) {
        entries[number] = entry;
      }
      came++;
      there++;
      together += length;
      return number;
    }

    int exchange(int number, byte[] from, int length) {
      Entry entry = find(number);
      if (entry == null || together - entry.bytes.length + length > MAX_TOGETHER) {
        return NONE;
      }
      together += length - entry.bytes.length;
      entry.fill(from, length);
      return length;
    }

    boolean drop(int number) {
      Entry entry = find(number);
      if (entry == null || number < 0 || number >= entries.length) {
        return false;
      }
      together -= entry.bytes.length;
      there--;
      entries[number] = null;
      return true;
    }

    int holder(int gram, int i) {
      int ahead = 0;
      for (int f = 0; f < came && i >= 0; f++) {
        Entry entry = find(f);
        if (entry != null && entry.grams.holds(gram)) {
          if (ahead == i) {
            return f;
          }
          ahead++;
        }
      }
      return NONE;
    }

    int allGrams() {
      int all = 0;
      for (int f = 0; f < came; f++) {
        Entry entry = find(f);
        all += entry == null ? 0 : entry.grams.many;
      }
      return all;
    }

    int differentGrams() {
      union.clear();
      for (int f = 0; f < came; f++) {
        Entry entry = find(f);
        if (entry != null) {
          spare.fillFromBoth(union, entry.grams);
          Row filled = spare;
          spare = union;
          union = filled;
        }
      }
      return union.many;
    }
  }

  /** A regex as a tree of nodes: an ALT has CATs below it, a CAT what stands side by side, a REPEAT one. */
  private static final class Tree {
    private final int[] kinds = new int[MAX_NODES];
    private final int[] firsts = new int[MAX_NODES];
    private final int[] lasts = new int[MAX_NODES];
    private final int[] nexts = new int[MAX_NODES];
    private final int[] befores = new int[MAX_NODES];
    private final int[] lows = new int[MAX_NODES];
    private final int[] highs = new int[MAX_NODES];
    private final int[] sets = new int[MAX_NODES];
    private final int[] sizes = new int[MAX_NODES];
    private final long[] bits = new long[4 * MAX_REGEX];
    private int many;
    private int setMany;

    void clear() {
      many = 0;
      setMany = 0;
    }

    int root() {
      return 0;
    }

    int newNode(int kind, int nodeSize) {
      int node = many;
      if (node >= MAX_NODES) {
        return NONE;
      }
      many++;
      store(kinds, node, kind);
      store(firsts, node, NONE);
      store(lasts, node, NONE);
      store(nexts, node, NONE);
      store(befores, node, NONE);
      store(sets, node, NONE);
      store(sizes, node, nodeSize);
      return node;
    }

    int newRepeat(int inner, int low, int high, int nodeSize) {
      int node = newNode(REPEAT, Math.min(nodeSize, SIZE_CAP));
      store(firsts, node, inner);
      store(lows, node, low);
      store(highs, node, high);
      return node;
    }

    int newBytes(int set) {
      int node = newNode(BYTES, 1);
      store(sets, node, set);
      return node;
    }

    void append(int parent, int node) {
      int last = lastOf(parent);
      store(befores, node, last);
      store(lasts, parent, node);
      if (last == NONE) {
        store(firsts, parent, node);
      } else {
        store(nexts, last, node);
      }
      grow(parent, sizeOf(node));
    }

    void grow(int node, int more) {
      store(sizes, node, Math.min(sizeOf(node) + more, SIZE_CAP));
    }

    int kindOf(int node) {
      return pick(kinds, node);
    }

    int firstOf(int node) {
      return pick(firsts, node);
    }

    int lastOf(int node) {
      return pick(lasts, node);
    }

    int nextOf(int node) {
      return pick(nexts, node);
    }

    int beforeOf(int node) {
      return pick(befores, node);
    }

    int lowOf(int node) {
      return pick(lows, node);
    }

    /** NONE where a REPEAT goes on without bound. */
    int highOf(int node) {
      return pick(highs, node);
    }

    int setOf(int node) {
      return pick(sets, node);
    }

    int sizeOf(int node) {
      return Math.max(0, pick(sizes, node));
    }

    int newSet() {
      int set = setMany;
      if (set >= MAX_REGEX) {
        return NONE;
      }
      setMany++;
      Arrays.fill(bits, 4 * set, 4 * set + 4, 0L);
      return set;
    }

    boolean contains(int set, int sign) {
      int word = wordOf(set, sign);
      return word != NONE && (bits[word] >>> (sign & 63) & 1L) != 0;
    }

    /** The least byte of the set from this one on. */
    int nextIn(int set, int from) {
      for (int sign = Math.max(0, from); sign < 256; sign = (sign | 63) + 1) {
        int word = wordOf(set, sign);
        long rest = word == NONE ? 0L : bits[word] >>> (sign & 63);
        if (rest != 0) {
          return sign + Long.numberOfTrailingZeros(rest);
        }
      }
      return NO_BYTE;
    }

    void include(int set, int sign) {
      int word = wordOf(set, sign);
      if (word != NONE) {
        bits[word] |= 1L << (sign & 63);
      }
    }

    void includeRange(int set, int low, int high) {
      for (int sign = low; sign <= high && sign < 256; sign++) {
        include(set, sign);
      }
    }

    /** \d, \w or \s. */
    void includeNamed(int set, int name) {
      for (int sign = 0; sign < 256; sign++) {
        if (name == 'd' && isDigit(sign) || name == 'w' && isWord(sign) || name == 's' && isSpace(sign)) {
          include(set, sign);
        }
      }
    }

    void foldLetters(int set) {
      for (int small = 'a'; small <= 'z'; small++) {
        int capital = small - 'a' + 'A';
        if (contains(set, small) || contains(set, capital)) {
          include(set, small);
          include(set, capital);
        }
      }
    }

    void invert(int set) {
      for (int sign = 0; sign < 256; sign += 64) {
        int word = wordOf(set, sign);
        if (word != NONE) {
          bits[word] = ~bits[word];
        }
      }
    }

    private int wordOf(int set, int sign) {
      if (set < 0 || sign < 0 || sign > 255) {
        return NONE;
      }
      int word = 4 * set + (sign >> 6);
      return word >= 0 && word < bits.length ? word : NONE;
    }
  }

  /** Reads a regex into a tree, up to its first fault. */
  private static final class Parser {
    final Tree tree = new Tree();
    int failure;
    int failurePlace = NONE;
    private byte[] source = new byte[0];
    private int length;
    private int at;
    private boolean folding;

    void read(byte[] from, int fromLength, boolean fold) {
      tree.clear();
      failure = 0;
      failurePlace = NONE;
      source = from;
      length = fromLength;
      at = 0;
      folding = fold;
      if (length > MAX_REGEX) {
        fail(MUCH, MAX_REGEX);
        return;
      }
      int root = readAlt(0);
      if (at < length) {
        fail(FORM, at);
      }
      if (tree.sizeOf(root) > MAX_SIZE) {
        fail(MUCH, length);
      }
    }

    /** The first fault that is met stays: what is met later has a later place. */
    private void fail(int kind, int place) {
      if (failure == 0) {
        failure = kind;
        failurePlace = place;
      }
    }

    private int peek() {
      return at < length ? byteOf(source, at) : NO_BYTE;
    }

    private int readAlt(int parens) {
      int alt = tree.newNode(ALT, 0);
      tree.append(alt, readCat(parens));
      for (int turn = 0; turn < MAX_REGEX && failure == 0 && peek() == '|'; turn++) {
        at++;
        tree.grow(alt, 1);
        tree.append(alt, readCat(parens));
      }
      return alt;
    }

    private int readCat(int parens) {
      int cat = tree.newNode(CAT, 0);
      for (int turn = 0; turn < MAX_REGEX && at < length && peek() != '|' && peek() != ')'; turn++) {
        int rep = readRep(parens);
        if (failure != 0) {
          return cat;
        }
        tree.append(cat, rep);
      }
      return cat;
    }

    private int readRep(int parens) {
      int atom = readAtom(parens);
      if (failure != 0) {
        return atom;
      }
      int inner = tree.sizeOf(atom);
      switch (peek()) {
        case '*':
          at++;
          return tree.newRepeat(atom, 0, NONE, inner + 1);
        case '+':
          at++;
          return tree.newRepeat(atom, 1, NONE, inner + 1);
        case '?':
          at++;
          return tree.newRepeat(atom, 0, 1, inner + 1);
        case '{':
          at++;
          return readBraces(atom);
        default:
          return atom;
      }
    }

    private int readBraces(int atom) {
      int inner = tree.sizeOf(atom);
      int low = readNumber();
      int high = low;
      if (failure == 0 && peek() == ',') {
        at++;
        high = isDigit(peek()) ? readSecondNumber(low) : NONE;
      }
      if (failure != 0) {
        return atom;
      }
      if (peek() != '}') {
        fail(FORM, at);
        return atom;
      }
      at++;
      int nodeSize = high == NONE ? (low + 1) * inner + 1 : high * inner + high - low;
      return tree.newRepeat(atom, low, high, nodeSize);
    }

    private int readSecondNumber(int low) {
      int place = at;
      int number = readNumber();
      if (number < low) {
        fail(ORDER, place);
      }
      return number;
    }

    private int readNumber() {
      int place = at;
      if (!isDigit(peek())) {
        fail(FORM, at);
        return 0;
      }
      int number = peek() - '0';
      at++;
      if (isDigit(peek())) {
        number = 10 * number + peek() - '0';
        at++;
      }
      if (number > MAX_NUMBER) {
        fail(MUCH, place);
      }
      return number;
    }

    private int readAtom(int parens) {
      int sign = peek();
      switch (sign) {
        case '(':
          return readGroup(parens);
        case '[':
          return readClass();
        case '\\':
          return readEscape();
        case '^':
          at++;
          return tree.newNode(LINE_FRONT, 1);
        case '$':
          at++;
          return tree.newNode(LINE_BACK, 1);
        case '.':
          return readDot();
        default:
          return readPlain(sign);
      }
    }

    private int readGroup(int parens) {
      if (parens >= MAX_PARENS) {
        fail(MUCH, at);
        return NONE;
      }
      at++;
      int alt = readAlt(parens + 1);
      if (failure == 0 && peek() != ')') {
        fail(FORM, at);
      }
      at++;
      return alt;
    }

    private int readDot() {
      at++;
      int set = tree.newSet();
      tree.include(set, LINE_BREAK);
      tree.invert(set);
      return tree.newBytes(set);
    }

    private int readPlain(int sign) {
      boolean special = sign == '|' || sign == '*' || sign == '+' || sign == '?' || sign == '{' || sign == '}'
          || sign == ')' || sign == ']';
      if (special || sign < 32 || sign > 126) {
        fail(FORM, at);
        return NONE;
      }
      at++;
      int set = tree.newSet();
      tree.include(set, sign);
      if (folding) {
        tree.foldLetters(set);
      }
      return tree.newBytes(set);
    }

    private int readEscape() {
      at++;
      int sign = peek();
      if (sign == 'b') {
        at++;
        return tree.newNode(WORD_EDGE, 1);
      }
      int set = tree.newSet();
      if (isName(sign)) {
        tree.includeNamed(set, sign);
      } else if (escaped(sign) != NO_BYTE) {
        tree.include(set, escaped(sign));
      } else {
        fail(FORM, at);
        return NONE;
      }
      at++;
      return tree.newBytes(set);
    }

    private static boolean isName(int sign) {
      return sign == 'd' || sign == 'w' || sign == 's';
    }

    /** What a backslash and this sign stand for, where that is one byte. */
    private static int escaped(int sign) {
      if (sign == 'n') {
        return LINE_BREAK;
      }
      if (sign == 't') {
        return TAB;
      }
      return sign >= 32 && sign <= 126 && !isLetter(sign) && !isDigit(sign) ? sign : NO_BYTE;
    }

    private int readClass() {
      at++;
      boolean without = peek() == '^';
      at += without ? 1 : 0;
      int set = tree.newSet();
      readPiece(set);
      for (int turn = 0; turn < MAX_REGEX && failure == 0 && peek() != ']'; turn++) {
        readPiece(set);
      }
      at++;
      if (folding) {
        tree.foldLetters(set);
      }
      if (without) {
        tree.invert(set);
      }
      return tree.newBytes(set);
    }

    private void readPiece(int set) {
      if (peek() == '\\' && at + 1 < length && isName(byteOf(source, at + 1))) {
        tree.includeNamed(set, byteOf(source, at + 1));
        at += 2;
        return;
      }
      int low = readOne();
      int high = low;
      if (failure == 0 && peek() == '-') {
        at++;
        int place = at;
        high = readOne();
        if (high < low) {
          fail(ORDER, place);
        }
      }
      if (failure == 0) {
        tree.includeRange(set, low, high);
      }
    }

    private int readOne() {
      int sign = peek();
      int one = sign;
      if (sign == '\\') {
        at++;
        one = escaped(peek());
      } else if (sign < 32 || sign > 126 || sign == ']' || sign == '-') {
        one = NO_BYTE;
      }
      if (one == NO_BYTE) {
        fail(FORM, at);
        return NO_BYTE;
      }
      at++;
      return one;
    }
  }

  /** Steps through a file in all ways at once in which the regex may lead. */
  private static final class Machine {
    private final Tree tree;
    private final int[] kinds = new int[MAX_STATES];
    private final int[] nexts = new int[MAX_STATES];
    private final int[] others = new int[MAX_STATES];
    private final int[] sets = new int[MAX_STATES];
    private int many;
    private int entrance;

    private final int[] marks = new int[MAX_STATES];
    private final int[] stack = new int[MAX_STATES];
    private int stackMany;
    // A way is 256 times the place where it began, and its state; both lists rise by these places.
    private final int[] seeds = new int[MAX_STATES];
    private int seedMany;
    private final int[] ways = new int[MAX_STATES];
    private int wayMany;
    private byte[] bytes = new byte[0];
    int begin = NONE;
    int finish = NONE;

    Machine(Tree tree) {
      this.tree = tree;
    }

    void build() {
      many = 0;
      int match = newState(MATCH, NONE, NONE, NONE);
      entrance = buildNode(tree.root(), match, 0);
    }

    /** The state from which the node leads on to the state that follows. What has no size leads on at once. */
    private int buildNode(int node, int then, int depth) {
      if (depth > MAX_LEVELS || tree.sizeOf(node) == 0) {
        return then;
      }
      switch (tree.kindOf(node)) {
        case ALT:
          return buildAlt(node, then, depth);
        case CAT:
          return buildCat(node, then, depth);
        case REPEAT:
          return buildRepeat(node, then, depth);
        default:
          return newState(tree.kindOf(node), then, NONE, tree.setOf(node));
      }
    }

    private int buildAlt(int node, int then, int depth) {
      int cat = tree.lastOf(node);
      int state = buildNode(cat, then, depth + 1);
      cat = tree.beforeOf(cat);
      for (int turn = 0; turn < MAX_NODES && cat != NONE; turn++) {
        state = newState(SPLIT, buildNode(cat, then, depth + 1), state, NONE);
        cat = tree.beforeOf(cat);
      }
      return state;
    }

    private int buildCat(int node, int then, int depth) {
      int state = then;
      int rep = tree.lastOf(node);
      for (int turn = 0; turn < MAX_NODES && rep != NONE; turn++) {
        state = buildNode(rep, state, depth + 1);
        rep = tree.beforeOf(rep);
      }
      return state;
    }

    private int buildRepeat(int node, int then, int depth) {
      int inner = tree.firstOf(node);
      int copies = tree.lowOf(node);
      int state = then;
      if (tree.highOf(node) == NONE) {
        int loop = newState(SPLIT, NONE, then, NONE);
        int again = buildNode(inner, loop, depth + 1);
        store(nexts, loop, again);
        state = copies == 0 ? loop : again;
        copies--;
      }
      for (int i = tree.lowOf(node); i < tree.highOf(node); i++) {
        state = newState(SPLIT, buildNode(inner, state, depth + 1), state, NONE);
      }
      for (int i = 0; i < copies; i++) {
        state = buildNode(inner, state, depth + 1);
      }
      return state;
    }

    private int newState(int kind, int next, int other, int set) {
      int state = many;
      if (state >= MAX_STATES) {
        return NONE;
      }
      many++;
      store(kinds, state, kind);
      store(nexts, state, next);
      store(others, state, other);
      store(sets, state, set);
      return state;
    }

    /** Ways that began later than one that has matched can't tell anything any more. */
    void seek(byte[] file) {
      bytes = file;
      begin = NONE;
      finish = NONE;
      seedMany = 0;
      Arrays.fill(marks, NONE);
      for (int i = 0; i <= file.length && (begin == NONE || seedMany > 0); i++) {
        spread(i);
        step(i);
      }
    }

    private void spread(int i) {
      wayMany = 0;
      for (int k = 0; k < seedMany; k++) {
        int seed = pick(seeds, k);
        enter(seed & 255, seed >> 8, i);
      }
      if (begin == NONE) {
        enter(entrance, i, i);
      }
    }

    /** A state is marked with the place at which it was entered: the way that began first keeps it. */
    private void enter(int state, int start, int i) {
      stackMany = 0;
      push(state, i);
      for (int turn = 0; turn < MAX_STATES && stackMany > 0; turn++) {
        stackMany--;
        follow(pick(stack, stackMany), start, i);
      }
    }

    private void push(int state, int i) {
      if (state >= 0 && state < MAX_STATES && pick(marks, state) != i) {
        store(marks, state, i);
        store(stack, stackMany, state);
        stackMany++;
      }
    }

    private void follow(int state, int start, int i) {
      int kind = pick(kinds, state);
      switch (kind) {
        case MATCH:
          noteMatch(start, i);
          break;
        case BYTES:
          store(ways, wayMany, start << 8 | state);
          wayMany++;
          break;
        case SPLIT:
          push(pick(others, state), i);
          push(pick(nexts, state), i);
          break;
        default:
          if (holdsAt(kind, i)) {
            push(pick(nexts, state), i);
          }
          break;
      }
    }

    private void noteMatch(int start, int i) {
      if (begin == NONE || start <= begin) {
        begin = start;
        finish = i;
      }
    }

    private boolean holdsAt(int kind, int i) {
      int ahead = byteOf(bytes, i - 1);
      int here = byteOf(bytes, i);
      switch (kind) {
        case LINE_FRONT:
          return i == 0 || ahead == LINE_BREAK;
        case LINE_BACK:
          return i == bytes.length || here == LINE_BREAK;
        case WORD_EDGE:
          return isWord(ahead) != isWord(here);
        default:
          return false;
      }
    }

    private void step(int i) {
      seedMany = 0;
      int sign = byteOf(bytes, i);
      for (int k = 0; k < wayMany && sign != NO_BYTE; k++) {
        int way = pick(ways, k);
        int state = way & 255;
        int start = way >> 8;
        if ((begin == NONE || start <= begin) && tree.contains(pick(sets, state), sign)) {
          store(seeds, seedMany, start << 8 | pick(nexts, state));
          seedMany++;
        }
      }
    }
  }

  /** Sets of grams of which none is part of another one. */
  private static final class Family {
    private final Row[] rows;
    private final long[] marks;
    int many;

    Family(int most) {
      int room = Math.max(1, most);
      rows = new Row[room];
      marks = new long[room];
    }

    void clear() {
      many = 0;
    }

    /** Rows are made where they are first needed, and used again. */
    Row row(int i) {
      int place = Math.max(0, Math.min(i, rows.length - 1));
      if (rows[place] == null) {
        rows[place] = new Row();
      }
      return rows[place];
    }

    /** Takes a set in, unless one of those here is part of it; those of which it is part go. */
    void offer(Row set) {
      long mark = set.mark();
      for (int i = 0; i < many; i++) {
        if ((markOf(i) & ~mark) == 0 && row(i).isPartOf(set)) {
          return;
        }
      }
      int kept = 0;
      for (int i = 0; i < many; i++) {
        if ((mark & ~markOf(i)) != 0 || !set.isPartOf(row(i))) {
          swap(kept, i);
          kept++;
        }
      }
      many = kept;
      if (many >= 0 && many < rows.length && many < marks.length) {
        row(many).copyFrom(set);
        marks[many] = mark;
        many++;
      }
    }

    void offerAll(Family other) {
      for (int i = 0; i < other.many; i++) {
        offer(other.row(i));
      }
    }

    void copyFrom(Family other) {
      many = 0;
      for (int i = 0; i < other.many && i < rows.length && i < marks.length; i++) {
        row(i).copyFrom(other.row(i));
        marks[i] = other.markOf(i);
        many++;
      }
    }

    boolean isAll() {
      return many == 1 && row(0).many == 0;
    }

    boolean isMetBy(Row grams) {
      for (int i = 0; i < many; i++) {
        if (holdsEach(grams, row(i))) {
          return true;
        }
      }
      return false;
    }

    void coreInto(Row core) {
      core.clear();
      for (int k = 0; many > 0 && k < row(0).many; k++) {
        int item = row(0).at(k);
        boolean common = true;
        for (int i = 1; i < many && common; i++) {
          common = row(i).holds(item);
        }
        if (common) {
          core.push(item);
        }
      }
    }

    void putInOrder() {
      for (int i = 1; i < many; i++) {
        for (int k = i; k > 0 && row(k).isAheadOf(row(k - 1)); k--) {
          swap(k, k - 1);
        }
      }
    }

    private static boolean holdsEach(Row grams, Row set) {
      for (int k = 0; k < set.many; k++) {
        if (!grams.holds(set.at(k))) {
          return false;
        }
      }
      return true;
    }

    private long markOf(int i) {
      return i >= 0 && i < marks.length ? marks[i] : 0L;
    }

    private void swap(int i, int k) {
      boolean inside = i >= 0 && i < rows.length && k >= 0 && k < rows.length;
      if (i != k && inside && i < marks.length && k < marks.length) {
        Row row = rows[i];
        rows[i] = rows[k];
        rows[k] = row;
        long mark = marks[i];
        marks[i] = marks[k];
        marks[k] = mark;
      }
    }
  }

  /** The texts of what is exact, in their order. */
  private static final class Texts {
    private final byte[][] rows = new byte[MAX_TEXTS][MAX_TEXT];
    private final int[] lengths = new int[MAX_TEXTS];
    int many;

    void clear() {
      many = 0;
    }

    int lengthOf(int i) {
      return i >= 0 && i < many && i < lengths.length ? lengths[i] : 0;
    }

    int signAt(int i, int k) {
      return i >= 0 && i < rows.length && k < lengthOf(i) ? byteOf(rows[i], k) : NONE;
    }

    /** False, if the text is new and there is no room for it. */
    boolean put(byte[] text, int length) {
      int place = 0;
      while (place < many && compare(place, text, length) < 0) {
        place++;
      }
      if (place < many && compare(place, text, length) == 0) {
        return true;
      }
      if (many >= MAX_TEXTS || length < 0 || length > MAX_TEXT || length > text.length) {
        return false;
      }
      for (int i = many; i > place; i--) {
        moveUp(i - 1);
      }
      many++;
      write(place, text, length);
      return true;
    }

    /** Writes the text into a row of bytes from a place on, as far as there is room: how many then stand there. */
    int copyTo(int i, byte[] into, int from) {
      int place = from;
      for (int k = 0; k < lengthOf(i) && place >= 0 && place < into.length; k++) {
        into[place] = (byte) signAt(i, k);
        place++;
      }
      return place;
    }

    void copyFrom(Texts other) {
      many = 0;
      for (int i = 0; i < other.many && i < rows.length && i < lengths.length; i++) {
        lengths[i] = other.copyTo(i, rows[i], 0);
        many++;
      }
    }

    private int compare(int i, byte[] text, int length) {
      for (int k = 0; k < lengthOf(i) && k < length; k++) {
        int difference = signAt(i, k) - byteOf(text, k);
        if (difference != 0) {
          return difference;
        }
      }
      return lengthOf(i) - length;
    }

    private void moveUp(int i) {
      if (i >= 0 && i + 1 < rows.length) {
        byte[] row = rows[i + 1];
        rows[i + 1] = rows[i];
        rows[i] = row;
        store(lengths, i + 1, pick(lengths, i));
      }
    }

    private void write(int i, byte[] text, int length) {
      if (i >= 0 && i < rows.length && length >= 0 && length <= text.length && length <= rows[i].length) {
        System.arraycopy(text, 0, rows[i], 0, length);
        store(lengths, i, length);
      }
    }
  }

  /** What is known of what a part of a regex matches. */
  private static final class Part {
    boolean exact;
    // Whether heads, tails and want stand already; they always do of what is open.
    boolean unfolded;
    final Texts texts = new Texts();
    final Row heads = new Row();
    final Row tails = new Row();
    final Family want = new Family(MAX_CHOICES);

    void becomeExact(Texts its) {
      texts.copyFrom(its);
      exact = true;
      unfolded = false;
    }

    /** The key 0 is that of the text without bytes. */
    void becomeShut(Row noGrams) {
      exact = false;
      unfolded = true;
      heads.clear();
      heads.push(0);
      tails.clear();
      tails.push(0);
      want.clear();
      want.offer(noGrams);
    }
  }

  /** Works out what is wanted of a file. */
  private static final class Planner {
    private final Tree tree;
    private final Part[] parts = new Part[MAX_LEVELS];
    private final Family product = new Family(MAX_CHOICES * MAX_CHOICES);
    private final Family crossing = new Family(MAX_CHOICES);
    private final Row joined = new Row();
    private final Row core = new Row();
    private final Row keys = new Row();
    private final Row shortKeys = new Row();
    private final Texts products = new Texts();
    private final byte[] text = new byte[MAX_TEXT];
    private final Part nothing = new Part();

    Planner(Tree tree) {
      this.tree = tree;
    }

    Part whole() {
      return part(0);
    }

    void plan() {
      becomeNothing(nothing);
      work(tree.root(), 0);
      unfold(whole());
      whole().want.putInOrder();
    }

    private Part part(int level) {
      int place = Math.max(0, Math.min(level, parts.length - 1));
      if (parts[place] == null) {
        parts[place] = new Part();
      }
      return parts[place];
    }

    private void becomeNothing(Part part) {
      products.clear();
      products.put(text, 0);
      part.becomeExact(products);
    }

    private void becomeShut(Part part) {
      joined.clear();
      part.becomeShut(joined);
    }

    /** Leaves what is known of the node in the part of this level; higher levels are for its parts. */
    private void work(int node, int level) {
      if (level >= MAX_LEVELS) {
        return;
      }
      switch (tree.kindOf(node)) {
        case ALT:
          workAlt(node, level);
          break;
        case CAT:
          workCat(node, level);
          break;
        case REPEAT:
          workRepeat(node, level);
          break;
        case BYTES:
          workBytes(tree.setOf(node), part(level));
          break;
        default:
          becomeNothing(part(level));
          break;
      }
    }

    private void workAlt(int node, int level) {
      int cat = tree.firstOf(node);
      work(cat, level);
      cat = tree.nextOf(cat);
      for (int turn = 0; turn < MAX_NODES && cat != NONE; turn++) {
        work(cat, level + 1);
        alternate(part(level), part(level + 1));
        cat = tree.nextOf(cat);
      }
    }

    private void workCat(int node, int level) {
      becomeNothing(part(level));
      int rep = tree.firstOf(node);
      for (int turn = 0; turn < MAX_NODES && rep != NONE; turn++) {
        work(rep, level + 1);
        join(part(level), part(level + 1));
        rep = tree.nextOf(rep);
      }
    }

    /** What is there no time isn't worked out: it alone may be of any size. */
    private void workRepeat(int node, int level) {
      int low = tree.lowOf(node);
      int high = tree.highOf(node);
      Part whole = part(level);
      Part inner = part(level + 1);
      if (low == 0 && high == NONE) {
        becomeShut(whole);
        return;
      }
      becomeNothing(whole);
      if (high == 0) {
        return;
      }
      work(tree.firstOf(node), level + 1);
      for (int i = 0; i < (high == NONE ? low - 1 : low); i++) {
        join(whole, inner);
      }
      if (high == NONE) {
        unfold(inner);
        inner.exact = false;
        join(whole, inner);
      } else if (high > low) {
        alternate(inner, nothing);
        for (int i = low; i < high; i++) {
          join(whole, inner);
        }
      }
    }

    private void workBytes(int set, Part part) {
      products.clear();
      int sign = tree.nextIn(set, 0);
      for (int turn = 0; turn <= MAX_TEXTS && sign != NO_BYTE; turn++) {
        text[0] = (byte) sign;
        if (!products.put(text, 1)) {
          becomeShut(part);
          return;
        }
        sign = tree.nextIn(set, sign + 1);
      }
      part.becomeExact(products);
    }

    /** f becomes f g, one behind the other. */
    private void join(Part f, Part g) {
      if (f.exact && g.exact && multiply(f.texts, g.texts)) {
        f.becomeExact(products);
        return;
      }
      unfold(f);
      unfold(g);
      cross(f.tails, g.heads);
      if (f.exact) {
        joinHeads(f, g.heads);
      }
      if (g.exact) {
        joinTails(f, g.texts);
      } else {
        f.tails.copyFrom(g.tails);
      }
      both(f.want, g.want);
      both(f.want, crossing);
      f.exact = false;
    }

    /** f becomes f | g. */
    private void alternate(Part f, Part g) {
      if (f.exact && g.exact && unite(f.texts, g.texts)) {
        f.becomeExact(products);
        return;
      }
      unfold(f);
      unfold(g);
      keys.fillFromBoth(f.heads, g.heads);
      shorten(f.heads, false);
      keys.fillFromBoth(f.tails, g.tails);
      shorten(f.tails, true);
      product.clear();
      product.offerAll(f.want);
      product.offerAll(g.want);
      leastInto(f.want);
      f.exact = false;
    }

    private boolean multiply(Texts f, Texts g) {
      products.clear();
      for (int i = 0; i < f.many; i++) {
        for (int k = 0; k < g.many; k++) {
          int length = f.lengthOf(i) + g.lengthOf(k);
          if (length > MAX_TEXT) {
            return false;
          }
          g.copyTo(k, text, f.copyTo(i, text, 0));
          if (!products.put(text, length)) {
            return false;
          }
        }
      }
      return true;
    }

    private boolean unite(Texts f, Texts g) {
      products.copyFrom(f);
      for (int k = 0; k < g.many; k++) {
        if (!products.put(text, g.copyTo(k, text, 0))) {
          return false;
        }
      }
      return true;
    }

    /** Works out heads, tails and want of what is exact; it stays told as exact. */
    private void unfold(Part part) {
      if (part.unfolded) {
        return;
      }
      Texts texts = part.texts;
      keys.clear();
      for (int i = 0; i < texts.many; i++) {
        keys.insert(keyOf(texts.signAt(i, 0), texts.signAt(i, 1)));
      }
      shorten(part.heads, false);
      keys.clear();
      for (int i = 0; i < texts.many; i++) {
        keys.insert(tailKey(texts, i, 0));
      }
      shorten(part.tails, true);
      product.clear();
      for (int i = 0; i < texts.many; i++) {
        offerGrams(texts, i);
      }
      // So few texts never tell too many choices.
      part.want.copyFrom(product);
      part.unfolded = true;
    }

    private void offerGrams(Texts texts, int i) {
      joined.clear();
      for (int k = 0; k + 2 < texts.lengthOf(i); k++) {
        joined.insert(gramOf(texts.signAt(i, k), texts.signAt(i, k + 1), texts.signAt(i, k + 2)));
      }
      product.offer(joined);
    }

    /** The key of the last two signs of a tail (by its key), and the i-th text behind it. */
    private static int tailKey(Texts texts, int i, int tail) {
      int length = texts.lengthOf(i);
      if (length == 0) {
        return tail;
      }
      int last = texts.signAt(i, length - 1);
      int previous = length == 1 ? lastSign(tail) : texts.signAt(i, length - 2);
      return previous == NO_BYTE ? keyOf(last, NO_BYTE) : keyOf(previous, last);
    }

    /** The key of the first two signs of the i-th text, and a head (by its key) behind it. */
    private static int headKey(Texts texts, int i, int head) {
      int length = texts.lengthOf(i);
      if (length == 0) {
        return head;
      }
      return keyOf(texts.signAt(i, 0), length == 1 ? keySign(head, 0) : texts.signAt(i, 1));
    }

    private void joinHeads(Part f, Row heads) {
      keys.clear();
      for (int i = 0; i < f.texts.many; i++) {
        for (int k = 0; k < heads.many; k++) {
          keys.insert(headKey(f.texts, i, heads.at(k)));
        }
      }
      shorten(f.heads, false);
    }

    private void joinTails(Part f, Texts texts) {
      keys.clear();
      for (int i = 0; i < texts.many; i++) {
        for (int k = 0; k < f.tails.many; k++) {
          keys.insert(tailKey(texts, i, f.tails.at(k)));
        }
      }
      shorten(f.tails, true);
    }

    /** The heads (or tails) of the texts whose keys are gathered. */
    private void shorten(Row into, boolean fromBehind) {
      into.clear();
      shortKeys.clear();
      for (int i = 0; i < keys.many; i++) {
        int key = keys.at(i);
        int one = key % KEY == 0 ? key : keyOf(fromBehind ? keySign(key, 1) : keySign(key, 0), NO_BYTE);
        boolean goes = key != 0 && keys.holds(0) || key != one && keys.holds(one);
        if (!goes) {
          into.push(key);
          shortKeys.insert(one);
        }
      }
      if (into.many > MAX_ENDS) {
        into.copyFrom(shortKeys);
      }
      if (into.many > MAX_ENDS) {
        into.clear();
        into.push(0);
      }
    }

    /** What each tail with each head behind it tells: a text of four bytes at most. */
    private void cross(Row tails, Row heads) {
      product.clear();
      for (int i = 0; i < tails.many; i++) {
        for (int k = 0; k < heads.many; k++) {
          offerCrossing(tails.at(i), heads.at(k));
        }
      }
      leastInto(crossing);
    }

    private void offerCrossing(int tail, int head) {
      int last = lastSign(tail);
      int first = keySign(head, 0);
      joined.clear();
      if (tail % KEY != 0 && first != NO_BYTE) {
        joined.insert(gramOf(keySign(tail, 0), last, first));
      }
      if (last != NO_BYTE && head % KEY != 0) {
        joined.insert(gramOf(last, first, keySign(head, 1)));
      }
      product.offer(joined);
    }

    /** Those gathered in the product, or their core alone, if they are too many. */
    private void leastInto(Family want) {
      if (product.many > MAX_CHOICES) {
        product.coreInto(core);
        product.clear();
        product.offer(core);
      }
      want.copyFrom(product);
    }

    /** p becomes both of p and q. */
    private void both(Family p, Family q) {
      if (q.isAll()) {
        return;
      }
      product.clear();
      for (int i = 0; i < p.many; i++) {
        for (int k = 0; k < q.many; k++) {
          joined.fillFromBoth(p.row(i), q.row(k));
          product.offer(joined);
        }
      }
      if (product.many > MAX_CHOICES) {
        bothByCore(p, q);
      }
      p.copyFrom(product);
    }

    private void bothByCore(Family p, Family q) {
      boolean coreOfQ = p.many <= q.many;
      Family kept = coreOfQ ? p : q;
      Family other = coreOfQ ? q : p;
      other.coreInto(core);
      product.clear();
      for (int i = 0; i < kept.many; i++) {
        joined.fillFromBoth(kept.row(i), core);
        product.offer(joined);
      }
    }
  }

  /** What is told of the latest search, and of all of them together. */
  private static final class Report {
    private final Row openedNumbers = new Row();
    private final Row hitFacts = new Row();
    int hitMany;
    int searches;
    int openedInAll;
    int hitsInAll;
    int regexSize;

    void begin(int itsSize) {
      openedNumbers.clear();
      hitFacts.clear();
      hitMany = 0;
      searches++;
      regexSize = itsSize;
    }

    void noteOpened(int number) {
      openedNumbers.push(number);
      openedInAll++;
    }

    void noteHit(int number, int begin, int finish, int line) {
      hitFacts.push(number);
      hitFacts.push(begin);
      hitFacts.push(finish);
      hitFacts.push(line);
      hitMany++;
      hitsInAll++;
    }

    int openedNumber(int i) {
      return openedNumbers.at(i);
    }

    int hitFact(int i, int what) {
      boolean there = i >= 0 && i < hitMany && what >= 0 && what <= 3;
      return there ? hitFacts.at(4 * i + what) : NONE;
    }
  }
}
