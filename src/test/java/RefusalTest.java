import java.util.ArrayList;
import java.util.List;

/**
 * "A call that is refused changes nothing (but for what search() says)": all that is told of a finder is written down
 * ahead of the refused call and behind it, and what is on the tape is looked at in the end. No finder is used for more
 * than 512 calls.
 */
public final class RefusalTest {
  private static final int NONE = GramFinder.NONE;
  private static final String[] GRAMS = {"abc", "bca", "bcd", "ab\n", "xyz"};

  private RefusalTest() {}

  public static void main(String[] args) {
    feed();
    end();
    addToForty();
    addToTwoHundred();
    change();
    remove();
    searches();
    searchAheadOfAny();
    searchEmptiesTheTape();
    answersChangeNothing();
    Check.finish();
  }

  /** Three files (one of them gone) and a search that opened two and hit one. */
  private static GramFinder busy() {
    GramFinder x = new GramFinder();
    Check.add(x, "\nabcd");
    Check.add(x, "gone");
    Check.add(x, "abce");
    x.remove(1);
    Check.search(x, "abcd?e*$", false);
    return x;
  }

  private static List<Integer> told(GramFinder x) {
    List<Integer> told = toldOfFiles(x);
    told.add(x.fault(0));
    told.add(x.fault(1));
    told.add(x.count(5));
    told.addAll(toldOfSearch(x));
    return told;
  }

  private static List<Integer> toldOfFiles(GramFinder x) {
    List<Integer> told = new ArrayList<>();
    for (int what = 0; what <= 4; what++) {
      told.add(x.count(what));
    }
    for (int f = 0; f <= 3; f++) {
      told.add(x.size(f));
      for (int i = 0; i < 6; i++) {
        told.add(x.byteAt(f, i));
      }
    }
    for (String gram : GRAMS) {
      for (int i = 0; i <= 2; i++) {
        told.add(x.posting(Check.gram(gram), i));
      }
    }
    return told;
  }

  private static List<Integer> toldOfSearch(GramFinder x) {
    List<Integer> told = new ArrayList<>();
    for (int what = 6; what <= 9; what++) {
      told.add(x.count(what));
    }
    for (int i = 0; i <= 2; i++) {
      told.add(x.opened(i));
      for (int what = 0; what <= 3; what++) {
        told.add(x.hit(i, what));
      }
      told.add(x.gram(0, i));
      told.add(x.choice(i - 1));
      told.add(x.texts(i));
      for (int k = 0; k < 2; k++) {
        told.add(x.text(i, k, 0));
        told.add(x.text(i, k, 1));
      }
    }
    return told;
  }

  private static void dueSame(String call, List<Integer> ahead, List<Integer> behind) {
    Check.dueText("what is told behind " + call, behind.toString(), ahead.toString());
  }

  /** What is on the tape is seen when it becomes a file. */
  private static void dueTape(GramFinder x, String call, String want) {
    Check.due("bytes on the tape behind " + call, x.count(5), want.length());
    int f = x.add();
    Check.due("size of the tape's file behind " + call, x.size(f), want.length());
    for (int i = 0; i < want.length() && i < 200; i++) {
      Check.due("byte " + i + " of the tape behind " + call, x.byteAt(f, i), want.charAt(i));
    }
  }

  private static void feed() {
    GramFinder x = busy();
    String tape = "0123456789".repeat(99);
    Check.write(x, tape);
    List<Integer> ahead = told(x);
    Check.due("feed from 990", x.feed(0x41414141, 0x41414141, 0x41414141, 0x41414141, 0x41414141), NONE);
    dueSame("a refused feed", ahead, told(x));
    dueTape(x, "a refused feed", tape);
  }

  private static void end() {
    GramFinder x = busy();
    Check.write(x, "tape");
    List<Integer> ahead = told(x);
    for (int n : new int[] {5, 20, 1000, -1, Integer.MIN_VALUE, Integer.MAX_VALUE}) {
      Check.due("end(" + n + ")", x.end(n), false);
    }
    dueSame("a refused end", ahead, told(x));
    dueTape(x, "a refused end", "tape");
  }

  private static void addToForty() {
    GramFinder x = busy();
    for (int i = 0; i < 38; i++) {
      x.add();
    }
    Check.write(x, "tape");
    List<Integer> ahead = told(x);
    Check.due("add where 40 are there", x.add(), NONE);
    dueSame("a refused add", ahead, told(x));
    x.remove(40);
    dueTape(x, "a refused add", "tape");
  }

  private static void addToTwoHundred() {
    GramFinder x = new GramFinder();
    Check.add(x, "abc");
    for (int i = 1; i < 200; i++) {
      x.add();
      x.remove(i);
    }
    Check.write(x, "tape");
    int[] counts = new int[10];
    for (int what = 0; what < 10; what++) {
      counts[what] = x.count(what);
    }
    Check.due("add where 200 came", x.add(), NONE);
    for (int what = 0; what < 10; what++) {
      Check.due("count(" + what + ") behind a refused add", x.count(what), counts[what]);
    }
    Check.due("size(199) behind a refused add", x.size(199), NONE);
    Check.due("size(200) behind a refused add", x.size(200), NONE);
    Check.due("size(0) behind a refused add", x.size(0), 3);
    Check.due("change with the tape that stays", x.change(0), 4);
    Check.due("its first byte", x.byteAt(0, 0), 't');
    Check.due("its last byte", x.byteAt(0, 3), 'e');
  }

  private static void change() {
    GramFinder x = busy();
    Check.write(x, "tape");
    List<Integer> ahead = told(x);
    for (int f : new int[] {1, 3, 200, -1, Integer.MIN_VALUE, Integer.MAX_VALUE}) {
      Check.due("change(" + f + ")", x.change(f), NONE);
    }
    dueSame("a refused change", ahead, told(x));
    dueTape(x, "a refused change", "tape");
  }

  private static void remove() {
    GramFinder x = busy();
    Check.write(x, "tape");
    List<Integer> ahead = told(x);
    for (int f : new int[] {1, 3, 200, -1, Integer.MIN_VALUE, Integer.MAX_VALUE}) {
      Check.due("remove(" + f + ")", x.remove(f), false);
    }
    dueSame("a refused remove", ahead, told(x));
    dueTape(x, "a refused remove", "tape");
  }

  /** Of each kind of fault: search() says it, and what is told of the files and of the latest search stays. */
  private static void searches() {
    String[] regexes = {"abc(", "*", "x|y)", "[z-a]", "a{3,2}", "a{21}", "(a{20}){11}", "x".repeat(81),
        "(".repeat(11), "(a|b)*(c|d){2,}[x-", "\u00ff"};
    int[][] faults = {{1, 4}, {1, 0}, {1, 3}, {2, 3}, {2, 4}, {3, 2}, {3, 11}, {3, 80}, {3, 10}, {1, 18}, {1, 0}};
    for (int i = 0; i < regexes.length; i++) {
      for (int fold = 0; fold < 2; fold++) {
        GramFinder x = busy();
        List<Integer> files = toldOfFiles(x);
        List<Integer> search = toldOfSearch(x);
        String call = "search(" + regexes[i] + ")";
        Check.due(call, Check.search(x, regexes[i], fold == 1), NONE);
        Check.due("fault(0) behind " + call, x.fault(0), faults[i][0]);
        Check.due("fault(1) behind " + call, x.fault(1), faults[i][1]);
        dueSame(call, files, toldOfFiles(x));
        dueSame(call, search, toldOfSearch(x));
      }
    }
  }

  /** One with a FAULT is no SEARCH: what is told is as ahead of any. */
  private static void searchAheadOfAny() {
    GramFinder x = new GramFinder();
    Check.add(x, "abc");
    List<Integer> ahead = toldOfSearch(x);
    Check.due("search(a()", Check.search(x, "a(", false), NONE);
    dueSame("a first search with a fault", ahead, toldOfSearch(x));
    Check.due("choice(NONE)", x.choice(NONE), NONE);
    Check.due("texts(0)", x.texts(0), NONE);
    Check.due("texts(1)", x.texts(1), NONE);
    Check.due("fault(0)", x.fault(0), 1);
    Check.due("fault(1)", x.fault(1), 2);
  }

  /** A SEARCH with the TAPE's BYTES (it is empty then): with a FAULT, and without one. */
  private static void searchEmptiesTheTape() {
    for (String regex : new String[] {"abc", "", "*", "a{21}", "x".repeat(81)}) {
      GramFinder x = busy();
      Check.search(x, regex, false);
      Check.due("end(1) behind search(" + regex + ")", x.end(1), false);
      dueTape(x, "search(" + regex + ")", "");
    }
  }

  /** Calls that only tell, with arguments of which there is none such. */
  private static void answersChangeNothing() {
    for (int wild : new int[] {-1, 4, 1000, Integer.MIN_VALUE, Integer.MAX_VALUE}) {
      GramFinder x = busy();
      Check.write(x, "tape");
      List<Integer> ahead = told(x);
      x.size(wild);
      x.byteAt(wild, wild);
      x.byteAt(0, wild);
      x.posting(wild, wild);
      x.posting(Check.gram("abc"), wild);
      x.fault(wild);
      x.hit(wild, wild);
      x.hit(0, wild);
      x.opened(wild);
      x.choice(wild);
      x.gram(wild, wild);
      x.gram(0, wild);
      x.texts(wild);
      x.text(wild, wild, wild);
      x.text(0, wild, wild);
      x.text(0, 0, wild);
      x.count(wild);
      dueSame("calls of " + wild, ahead, told(x));
      dueTape(x, "calls of " + wild, "tape");
    }
  }
}
