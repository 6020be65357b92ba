import java.util.ArrayDeque;
import java.util.ArrayList;
import java.util.Arrays;
import java.util.BitSet;
import java.util.Collection;
import java.util.Deque;
import java.util.HashMap;
import java.util.List;
import java.util.Map;
import java.util.TreeMap;
import java.util.TreeSet;

/**
 * The document once more, written as plainly as its words allow and with no regard to speed: what the tests of chance
 * compare the class with. Texts are Strings of characters 0 to 255; sets are TreeSets.
 */
final class Model {
  static final int NONE = -1;

  /** How often a rule was used that is easily missed: a test of chance that never meets one proves nothing of it. */
  static final Map<String, Integer> MET = new TreeMap<>();

  static void met(String what) {
    MET.merge(what, 1, Integer::sum);
  }

  // ---- the calls

  private final StringBuilder tape = new StringBuilder();
  private final TreeMap<Integer, String> files = new TreeMap<>();
  private int came;
  private int searches;
  private int openedInAll;
  private int hitsInAll;
  private long size;
  private int fault;
  private int place = NONE;
  private Part whole;
  private List<TreeSet<Integer>> choices;
  private List<String> exact;
  private List<String> heads;
  private List<String> tails;
  private List<Integer> opened = List.of();
  private List<int[]> hits = List.of();

  int feed(int... numbers) {
    if (tape.length() + 20 > 1000) {
      return NONE;
    }
    for (int number : numbers) {
      for (int shift = 24; shift >= 0; shift -= 8) {
        tape.append((char) (number >>> shift & 255));
      }
    }
    return tape.length();
  }

  boolean end(int n) {
    if (n < 0 || n > tape.length()) {
      return false;
    }
    tape.setLength(n);
    return true;
  }

  private int together() {
    return files.values().stream().mapToInt(String::length).sum();
  }

  private String takeTape() {
    String taken = tape.toString();
    tape.setLength(0);
    return taken;
  }

  int add() {
    if (files.size() == 40 || came == 200 || together() + tape.length() > 16000) {
      return NONE;
    }
    files.put(came, takeTape());
    return came++;
  }

  int change(int f) {
    if (!files.containsKey(f) || together() - files.get(f).length() + tape.length() > 16000) {
      return NONE;
    }
    files.put(f, takeTape());
    return files.get(f).length();
  }

  boolean remove(int f) {
    return files.remove(f) != null;
  }

  int size(int f) {
    return files.containsKey(f) ? files.get(f).length() : NONE;
  }

  int byteAt(int f, int i) {
    return i >= 0 && i < size(f) ? files.get(f).charAt(i) : NONE;
  }

  int posting(int gram, int i) {
    List<Integer> having = new ArrayList<>();
    files.forEach((number, bytes) -> {
      if (grams(bytes).contains(gram)) {
        having.add(number);
      }
    });
    return at(having, i);
  }

  int search(boolean fold) {
    String regex = takeTape();
    Faults faults = new Faults(regex);
    fault = faults.kind;
    place = faults.place;
    if (fault == 0) {
      Node tree = new Reader(regex, fold).read();
      if (tree.size() <= 200) {
        return searchWith(tree);
      }
      fault = 3;
      place = regex.length();
    }
    return NONE;
  }

  private int searchWith(Node tree) {
    searches++;
    size = tree.size();
    whole = tree.part();
    exact = whole.exact ? new ArrayList<>(whole.texts) : List.of();
    Part open = whole.opened();
    heads = new ArrayList<>(open.heads);
    tails = new ArrayList<>(open.tails);
    choices = new ArrayList<>(open.want);
    choices.sort((p, q) -> Arrays.compare(ints(p), ints(q)));
    opened = new ArrayList<>();
    hits = new ArrayList<>();
    files.forEach((number, bytes) -> {
      TreeSet<Integer> had = grams(bytes);
      if (choices.stream().anyMatch(had::containsAll)) {
        opened.add(number);
        noteHit(number, bytes, tree);
      }
    });
    openedInAll += opened.size();
    hitsInAll += hits.size();
    return hits.size();
  }

  private void noteHit(int number, String bytes, Node tree) {
    for (int begin = 0; begin <= bytes.length(); begin++) {
      BitSet from = new BitSet();
      from.set(begin);
      int end = tree.leads(bytes, from).length() - 1;
      if (end >= 0) {
        int line = 1 + (int) bytes.substring(0, begin).chars().filter(c -> c == 10).count();
        hits.add(new int[] {number, begin, end, line});
        return;
      }
    }
  }

  int fault(int what) {
    return what == 0 ? fault : what == 1 ? place : NONE;
  }

  int hit(int i, int what) {
    return i >= 0 && i < hits.size() && what >= 0 && what <= 3 ? hits.get(i)[what] : NONE;
  }

  int opened(int i) {
    return at(opened, i);
  }

  int choice(int i) {
    if (whole == null) {
      return NONE;
    }
    return i == NONE ? choices.size() : i >= 0 && i < choices.size() ? choices.get(i).size() : NONE;
  }

  int gram(int i, int k) {
    return whole != null && i >= 0 && i < choices.size() ? at(new ArrayList<>(choices.get(i)), k) : NONE;
  }

  private List<String> told(int what) {
    return what == 0 ? exact : what == 1 ? heads : what == 2 ? tails : null;
  }

  int texts(int what) {
    return whole == null || told(what) == null ? NONE : told(what).size();
  }

  int text(int what, int i, int k) {
    if (i < 0 || i >= texts(what)) {
      return NONE;
    }
    String text = told(what).get(i);
    return k >= 0 && k < text.length() ? text.charAt(k) : NONE;
  }

  int count(int what) {
    TreeSet<Integer> different = new TreeSet<>();
    int all = 0;
    for (String bytes : files.values()) {
      different.addAll(grams(bytes));
      all += grams(bytes).size();
    }
    int[] counts = {files.size(), together(), came, different.size(), all, tape.length(), searches, openedInAll,
        hitsInAll, (int) size};
    return what >= 0 && what < counts.length ? counts[what] : NONE;
  }

  private static int at(List<Integer> list, int i) {
    return i >= 0 && i < list.size() ? list.get(i) : NONE;
  }

  private static int[] ints(Collection<Integer> set) {
    return set.stream().mapToInt(Integer::intValue).toArray();
  }

  static TreeSet<Integer> grams(String bytes) {
    TreeSet<Integer> grams = new TreeSet<>();
    for (int i = 0; i + 3 <= bytes.length(); i++) {
      grams.add(65536 * bytes.charAt(i) + 256 * bytes.charAt(i + 1) + bytes.charAt(i + 2));
    }
    return grams;
  }

  // ---- the faults: a machine that reads byte by byte, with a word for what may stand next

  static final class Faults {
    int kind;
    int place = NONE;
    private final Deque<String> open = new ArrayDeque<>();
    private String next = "atom";
    private String digits = "";
    private int digitsPlace;
    private String first;
    private int oneAhead;
    private int onePlace;

    Faults(String regex) {
      if (regex.length() > 80) {
        note(3, 80);
        return;
      }
      for (int i = 0; i < regex.length(); i++) {
        if (!goesOn(regex.charAt(i), i)) {
          note(1, i);
          finish();
          return;
        }
      }
      finish();
      if (!open.isEmpty() || !(next.equals("atom") || next.equals("count"))) {
        note(1, regex.length());
      }
    }

    private void note(int newKind, int newPlace) {
      if (kind == 0 || newPlace < place || newPlace == place && newKind < kind) {
        kind = newKind;
        place = newPlace;
      }
    }

    /** What is the digits' number is settled when no digit more is taken: at the end, too. */
    private void finish() {
      if (!digits.isEmpty()) {
        int number = Integer.parseInt(digits);
        if (number > 20) {
          note(3, digitsPlace);
        }
        if (first != null && number < Integer.parseInt(first)) {
          note(2, digitsPlace);
        }
      }
    }

    private static boolean sign(char c) {
      return c >= 32 && c <= 126 && !Character.isLetterOrDigit(c);
    }

    private boolean goesOn(char c, int i) {
      switch (next) {
        case "count":
          if (c == '*' || c == '+' || c == '?') {
            next = "atom";
            return true;
          }
          if (c == '{') {
            next = "first";
            digits = "";
            first = null;
            return true;
          }
          return atom(c, i);
        case "atom":
          return atom(c, i);
        case "escape":
          next = "count";
          return "ntdwsb".indexOf(c) >= 0 || sign(c);
        case "first":
        case "second":
          return number(c, i);
        case "hat":
          next = "pieces1";
          return c == '^' || piece(c, i);
        default:
          return inClass(c, i);
      }
    }

    private boolean atom(char c, int i) {
      next = "count";
      switch (c) {
        case '(':
          open.push("(");
          if (open.size() == 11) {
            note(3, i);
          }
          next = "atom";
          return true;
        case ')':
          return open.poll() != null;
        case '|':
          next = "atom";
          return true;
        case '[':
          next = "hat";
          return true;
        case '\\':
          next = "escape";
          return true;
        case '*': case '+': case '?': case '{': case '}': case ']':
          return false;
        default:
          return c >= 32 && c <= 126;
      }
    }

    private boolean number(char c, int i) {
      if (c >= '0' && c <= '9' && digits.length() < 2) {
        digitsPlace = digits.isEmpty() ? i : digitsPlace;
        digits += c;
        return true;
      }
      if (c == '}' && (!digits.isEmpty() || next.equals("second"))) {
        finish();
        digits = "";
        next = "atom";
        return true;
      }
      if (c == ',' && next.equals("first") && !digits.isEmpty()) {
        finish();
        first = digits;
        digits = "";
        next = "second";
        return true;
      }
      return false;
    }

    private boolean inClass(char c, int i) {
      switch (next) {
        case "pieces1":
          return piece(c, i);
        case "pieces":
          if (c == ']') {
            next = "count";
            return true;
          }
          return piece(c, i);
        case "dash":
          if (c == '-') {
            next = "high";
            return true;
          }
          next = "pieces";
          return goesOn(c, i);
        case "escaped":
          if (c == 'd' || c == 'w' || c == 's') {
            next = "pieces";
            return true;
          }
          oneAhead = c == 'n' ? 10 : c == 't' ? 9 : c;
          next = "dash";
          return c == 'n' || c == 't' || sign(c);
        case "high":
          onePlace = i;
          if (c == '\\') {
            next = "highEscaped";
            return true;
          }
          return c >= 32 && c <= 126 && c != ']' && c != '-' && high(c);
        case "highEscaped":
          return (c == 'n' || c == 't' || sign(c)) && high(c == 'n' ? 10 : c == 't' ? 9 : c);
        default:
          throw new IllegalStateException(next);
      }
    }

    private boolean high(int one) {
      if (one < oneAhead) {
        note(2, onePlace);
      }
      next = "pieces";
      return true;
    }

    private boolean piece(char c, int i) {
      if (c == '\\') {
        next = "escaped";
        return true;
      }
      oneAhead = c;
      next = "dash";
      return c >= 32 && c <= 126 && c != ']' && c != '-';
    }
  }

  // ---- a regex without a fault

  interface Node {
    long size();

    BitSet leads(String bytes, BitSet from);

    Part part();
  }

  record Bytes(BitSet set) implements Node {
    public long size() {
      return 1;
    }

    public BitSet leads(String bytes, BitSet from) {
      BitSet to = new BitSet();
      from.stream().filter(i -> i < bytes.length() && set.get(bytes.charAt(i))).forEach(i -> to.set(i + 1));
      return to;
    }

    public Part part() {
      if (set.cardinality() > 8) {
        return Part.shut();
      }
      TreeSet<String> texts = new TreeSet<>();
      set.stream().forEach(c -> texts.add("" + (char) c));
      return Part.exactly(texts);
    }
  }

  record Edge(char kind) implements Node {
    public long size() {
      return 1;
    }

    private static boolean word(String bytes, int i) {
      return i >= 0 && i < bytes.length() && bytes.substring(i, i + 1).matches("[A-Za-z0-9_]");
    }

    private boolean holds(String bytes, int i) {
      switch (kind) {
        case '^':
          return i == 0 || bytes.charAt(i - 1) == 10;
        case '$':
          return i == bytes.length() || bytes.charAt(i) == 10;
        default:
          return word(bytes, i - 1) ^ word(bytes, i);
      }
    }

    public BitSet leads(String bytes, BitSet from) {
      BitSet to = new BitSet();
      from.stream().filter(i -> holds(bytes, i)).forEach(to::set);
      return to;
    }

    public Part part() {
      return Part.none();
    }
  }

  record Cat(List<Node> reps) implements Node {
    public long size() {
      return reps.stream().mapToLong(Node::size).sum();
    }

    public BitSet leads(String bytes, BitSet from) {
      BitSet at = from;
      for (Node rep : reps) {
        at = rep.leads(bytes, at);
      }
      return at;
    }

    public Part part() {
      Part part = Part.none();
      for (Node rep : reps) {
        part = part.then(rep.part());
      }
      return part;
    }
  }

  record Alt(List<Node> cats) implements Node {
    public long size() {
      return cats.stream().mapToLong(Node::size).sum() + cats.size() - 1;
    }

    public BitSet leads(String bytes, BitSet from) {
      BitSet to = new BitSet();
      cats.forEach(cat -> to.or(cat.leads(bytes, from)));
      return to;
    }

    public Part part() {
      Part part = cats.get(0).part();
      for (Node cat : cats.subList(1, cats.size())) {
        part = part.or(cat.part());
      }
      return part;
    }
  }

  /** The count as it is written: * + ? n "n," or "n,m". */
  record Rep(Node inner, String count) implements Node {
    private int low() {
      return "*?".contains(count) ? 0 : count.equals("+") ? 1 : Integer.parseInt(count.split(",")[0]);
    }

    private boolean bound() {
      return !count.equals("*") && !count.equals("+") && !count.endsWith(",");
    }

    private int high() {
      return count.equals("?") ? 1 : Integer.parseInt(count.substring(count.indexOf(',') + 1));
    }

    public long size() {
      long of = inner.size();
      if ("*+?".contains(count)) {
        return of + 1;
      }
      return bound() ? high() * of + high() - low() : (low() + 1) * of + 1;
    }

    public BitSet leads(String bytes, BitSet from) {
      BitSet at = from;
      for (int i = 0; i < low(); i++) {
        at = inner.leads(bytes, at);
      }
      BitSet all = (BitSet) at.clone();
      for (int i = low(); bound() ? i < high() : !at.isEmpty(); i++) {
        at = inner.leads(bytes, at);
        if (!bound()) {
          at.andNot(all);
        }
        all.or(at);
      }
      return all;
    }

    public Part part() {
      if (!bound() && low() == 0) {
        return Part.shut();
      }
      Part part = Part.none();
      if (bound() && high() == 0) {
        return part;
      }
      Part of = inner.part();
      if (!bound()) {
        for (int i = 1; i < low(); i++) {
          part = part.then(of);
        }
        return count.equals("+") ? of.opened() : part.then(of.opened());
      }
      for (int i = 0; i < low(); i++) {
        part = part.then(of);
      }
      if (count.equals("?")) {
        return of.or(Part.none());
      }
      for (int i = low(); i < high(); i++) {
        part = part.then(of.or(Part.none()));
      }
      return part;
    }
  }

  /** Reads a regex that has no fault but may be too big. */
  static final class Reader {
    private final String regex;
    private final boolean fold;
    private int at;

    Reader(String regex, boolean fold) {
      this.regex = regex;
      this.fold = fold;
    }

    Node read() {
      Node tree = alt();
      if (at != regex.length()) {
        throw new IllegalStateException(regex);
      }
      return tree;
    }

    private boolean take(String sign) {
      if (regex.startsWith(sign, at)) {
        at += sign.length();
        return true;
      }
      return false;
    }

    private Node alt() {
      List<Node> cats = new ArrayList<>();
      do {
        List<Node> reps = new ArrayList<>();
        while (at < regex.length() && regex.charAt(at) != '|' && regex.charAt(at) != ')') {
          reps.add(rep());
        }
        cats.add(new Cat(reps));
      } while (take("|"));
      return new Alt(cats);
    }

    private Node rep() {
      Node atom = atom();
      for (String sign : List.of("*", "+", "?")) {
        if (take(sign)) {
          return new Rep(atom, sign);
        }
      }
      if (take("{")) {
        int close = regex.indexOf('}', at);
        String count = regex.substring(at, close);
        at = close + 1;
        return new Rep(atom, count);
      }
      return atom;
    }

    private Node atom() {
      char c = regex.charAt(at++);
      switch (c) {
        case '(':
          Node inner = alt();
          at++;
          return inner;
        case '[':
          return bracket();
        case '^': case '$':
          return new Edge(c);
        case '.':
          BitSet dot = new BitSet();
          dot.set(0, 256);
          dot.clear(10);
          return new Bytes(dot);
        case '\\':
          char e = regex.charAt(at++);
          return e == 'b' ? new Edge(e) : new Bytes(escaped(e));
        default:
          BitSet plain = new BitSet();
          plain.set(c);
          return new Bytes(folded(plain));
      }
    }

    private static BitSet escaped(char c) {
      String all = c == 'd' ? "0123456789" : c == 's' ? "\t\n " : c == 'n' ? "\n" : c == 't' ? "\t" : "" + c;
      if (c == 'w') {
        all = "0123456789_abcdefghijklmnopqrstuvwxyzABCDEFGHIJKLMNOPQRSTUVWXYZ";
      }
      BitSet set = new BitSet();
      all.chars().forEach(set::set);
      return set;
    }

    private BitSet folded(BitSet set) {
      BitSet all = (BitSet) set.clone();
      if (fold) {
        set.stream().filter(Character::isLetter).forEach(c -> {
          all.set(Character.toLowerCase(c));
          all.set(Character.toUpperCase(c));
        });
      }
      return all;
    }

    private Node bracket() {
      boolean without = take("^");
      BitSet set = new BitSet();
      while (!take("]")) {
        if (take("\\d") || take("\\w") || take("\\s")) {
          set.or(escaped(regex.charAt(at - 1)));
        } else {
          int low = one();
          int high = take("-") ? one() : low;
          set.set(low, high + 1);
        }
      }
      BitSet all = folded(set);
      if (without) {
        all.flip(0, 256);
      }
      return new Bytes(all);
    }

    private int one() {
      char c = regex.charAt(at++);
      return c == '\\' ? escaped(regex.charAt(at++)).nextSetBit(0) : c;
    }
  }

  // ---- what is wanted

  static final class Part {
    final boolean exact;
    final TreeSet<String> texts;
    final TreeSet<String> heads;
    final TreeSet<String> tails;
    final List<TreeSet<Integer>> want;

    private Part(boolean exact, TreeSet<String> texts, TreeSet<String> heads, TreeSet<String> tails,
        List<TreeSet<Integer>> want) {
      this.exact = exact;
      this.texts = texts;
      this.heads = heads;
      this.tails = tails;
      this.want = want;
    }

    static Part exactly(TreeSet<String> texts) {
      return new Part(true, texts, null, null, null);
    }

    static Part none() {
      return exactly(new TreeSet<>(List.of("")));
    }

    static Part shut() {
      TreeSet<String> empty = new TreeSet<>(List.of(""));
      return new Part(false, null, empty, empty, List.of(new TreeSet<>()));
    }

    Part opened() {
      return exact ? new Part(false, null, headsOf(texts), tailsOf(texts), of(texts)) : this;
    }

    Part then(Part g) {
      if (exact && g.exact) {
        TreeSet<String> all = times(texts, g.texts);
        boolean tooLong = all.stream().anyMatch(text -> text.length() > 60);
        if (tooLong) {
          met("a text of more than 60 bytes");
        }
        if (all.size() <= 8 && !tooLong) {
          return exactly(all);
        }
        met(all.size() > 8 ? "more than 8 texts" : "8 texts at most, but one too long");
      }
      Part openF = opened();
      Part openG = g.opened();
      TreeSet<String> newHeads = exact ? headsOf(times(texts, openG.heads)) : heads;
      TreeSet<String> newTails = g.exact ? tailsOf(times(openF.tails, g.texts)) : g.tails;
      List<TreeSet<Integer>> newWant =
          both(both(openF.want, openG.want), of(times(openF.tails, openG.heads)));
      return new Part(false, null, newHeads, newTails, newWant);
    }

    Part or(Part g) {
      if (exact && g.exact) {
        TreeSet<String> all = new TreeSet<>(texts);
        all.addAll(g.texts);
        if (all.size() <= 8) {
          return exactly(all);
        }
        met("an alternative of more than 8 texts");
      }
      Part openF = opened();
      Part openG = g.opened();
      TreeSet<String> allHeads = new TreeSet<>(openF.heads);
      allHeads.addAll(openG.heads);
      TreeSet<String> allTails = new TreeSet<>(openF.tails);
      allTails.addAll(openG.tails);
      List<TreeSet<Integer>> all = new ArrayList<>(openF.want);
      all.addAll(openG.want);
      return new Part(false, null, headsOf(allHeads), tailsOf(allTails), least(all));
    }

    private static TreeSet<String> times(TreeSet<String> f, TreeSet<String> g) {
      TreeSet<String> all = new TreeSet<>();
      f.forEach(t -> g.forEach(u -> all.add(t + u)));
      return all;
    }

    static TreeSet<String> headsOf(TreeSet<String> texts) {
      TreeSet<String> cut = new TreeSet<>();
      texts.forEach(text -> cut.add(text.substring(0, Math.min(2, text.length()))));
      TreeSet<String> stay = new TreeSet<>();
      for (String text : cut) {
        if (cut.stream().noneMatch(other -> !other.equals(text) && text.startsWith(other))) {
          stay.add(text);
        }
      }
      if (stay.size() <= 12) {
        return stay;
      }
      met("more than 12 heads");
      TreeSet<String> first = new TreeSet<>();
      stay.forEach(text -> first.add(text.substring(0, 1)));
      if (first.size() > 12) {
        met("more than 12 heads of one byte");
      }
      return first.size() <= 12 ? first : new TreeSet<>(List.of(""));
    }

    /** The heads of the texts turned round, turned round. */
    static TreeSet<String> tailsOf(TreeSet<String> texts) {
      return turned(headsOf(turned(texts)));
    }

    private static TreeSet<String> turned(TreeSet<String> texts) {
      TreeSet<String> turned = new TreeSet<>();
      texts.forEach(text -> turned.add(new StringBuilder(text).reverse().toString()));
      return turned;
    }

    private static List<TreeSet<Integer>> of(TreeSet<String> texts) {
      List<TreeSet<Integer>> sets = new ArrayList<>();
      texts.forEach(text -> sets.add(grams(text)));
      return least(sets);
    }

    private static List<TreeSet<Integer>> smallest(Collection<TreeSet<Integer>> sets) {
      List<TreeSet<Integer>> different = new ArrayList<>(new java.util.LinkedHashSet<>(sets));
      List<TreeSet<Integer>> stay = new ArrayList<>();
      for (TreeSet<Integer> set : different) {
        if (different.stream().noneMatch(other -> !other.equals(set) && set.containsAll(other))) {
          stay.add(set);
        }
      }
      return stay;
    }

    private static List<TreeSet<Integer>> least(Collection<TreeSet<Integer>> sets) {
      List<TreeSet<Integer>> stay = smallest(sets);
      if (stay.size() <= 24) {
        return stay;
      }
      TreeSet<Integer> core = coreOf(stay);
      met(core.isEmpty() ? "least of more than 24, without core" : "least of more than 24, with a core");
      return List.of(core);
    }

    private static TreeSet<Integer> coreOf(Collection<TreeSet<Integer>> sets) {
      TreeSet<Integer> core = null;
      for (TreeSet<Integer> set : sets) {
        if (core == null) {
          core = new TreeSet<>(set);
        } else {
          core.retainAll(set);
        }
      }
      return core;
    }

    private static List<TreeSet<Integer>> withEach(Collection<TreeSet<Integer>> sets,
        Collection<TreeSet<Integer>> others) {
      List<TreeSet<Integer>> all = new ArrayList<>();
      for (TreeSet<Integer> set : sets) {
        for (TreeSet<Integer> other : others) {
          TreeSet<Integer> together = new TreeSet<>(set);
          together.addAll(other);
          all.add(together);
        }
      }
      return all;
    }

    private static List<TreeSet<Integer>> both(List<TreeSet<Integer>> p, List<TreeSet<Integer>> q) {
      List<TreeSet<Integer>> all = smallest(withEach(p, q));
      if (all.size() <= 24) {
        return all;
      }
      boolean coreOfQ = p.size() <= q.size();
      TreeSet<Integer> core = coreOf(coreOfQ ? q : p);
      met("both by the core of the " + (coreOfQ ? "second" : "first") + (core.isEmpty() ? ", empty" : "")
          + (p.size() == q.size() ? ", of as many" : ""));
      return least(withEach(coreOfQ ? p : q, List.of(core)));
    }
  }

  /** Forgets what was met; the tests that need it fresh call it. */
  static void forgetMet() {
    MET.clear();
  }

  static Map<String, Integer> metNow() {
    return new HashMap<>(MET);
  }
}
