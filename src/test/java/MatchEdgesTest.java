/** The edges of terms 3 and 5 and of promises 12 and 13: each method holds the sentence that stands above it. */
public final class MatchEdgesTest {
  private static final int NONE = GramFinder.NONE;

  private MatchEdgesTest() {}

  public static void main(String[] args) {
    placesOfNoBytes();
    placesUpToTheEnd();
    oneByteNeedsOne();
    escapedSignsStandForThemselves();
    digits();
    words();
    blanks();
    allButTheLineBreak();
    rangesWithBothEnds();
    noneOfThese();
    foldOfLetters();
    foldOfNoLetters();
    foldOfPieces();
    foldAheadOfTheHat();
    noFold();
    lineFront();
    lineBack();
    wordEdge();
    catOfNone();
    catInTurn();
    altByOne();
    anyNumberOfTimes();
    onceOrMore();
    onceOrNot();
    exactlySoOften();
    soOftenAndMore();
    soOftenToSoOften();
    timesOfNothing();
    leastBegin();
    greatestEnd();
    endOfThatBegin();
    openedByNumbers();
    noOthersAreOpened();
    openedButNoHit();
    hitsOfForty();
    hitOfOthers();
    openedOfNoneSuch();
    asItWasThen();
    latestSearchAlone();
    aheadOfAny();
    Check.finish();
  }

  private static void due(String bytes, String regex, int begin, int end) {
    MatchTest.dueHit(bytes, regex, begin, end);
  }

  private static void dueNone(String bytes, String regex) {
    MatchTest.dueNone(bytes, regex);
  }

  // ---- what matches

  /** 0 <= i <= j <= n, where n is 0. */
  private static void placesOfNoBytes() {
    for (String regex : new String[] {"", "^", "$", "^$", "a*", "a?", "a{0}", "()", "(|a)", "x|$", "(^$)+", ".*"}) {
      due("", regex, 0, 0);
    }
    for (String regex : new String[] {"a", ".", "\\b", "[^a]", "\\n", "a+", "$a", "a^", "\\s"}) {
      dueNone("", regex);
    }
  }

  /** 0 <= i <= j <= n: j may be n, and i as well. */
  private static void placesUpToTheEnd() {
    due("abc", "c", 2, 3);
    due("abc", "abc", 0, 3);
    due("abc", "$", 3, 3);
    due("a\n", "^$", 2, 2);
    due("ab", "(^|b$)$|$", 1, 2);
    due("x".repeat(999) + "y", "y", 999, 1000);
    due("x".repeat(1000), ".*", 0, 1000);
    due("x".repeat(1000), "$", 1000, 1000);
    due("x".repeat(1000), "xx$", 998, 1000);
  }

  /** What stands for one BYTE: j is i + 1, and the BYTE at i is one of these. */
  private static void oneByteNeedsOne() {
    dueNone("a", "aa");
    dueNone("ab", "b.");
    dueNone("ab", "b[^a]");
    dueNone("a\n", "a..");
    due("a\n\n", "a\\n[^a]", 0, 3);
  }

  /** a PLAIN, an escaped sign: it itself; \n 10, \t 9. */
  private static void escapedSignsStandForThemselves() {
    for (char c = 32; c <= 126; c++) {
      if (!Character.isLetterOrDigit(c)) {
        due("a" + c, "\\" + c, 1, 2);
        dueNone("a", "\\" + c);
      }
      if ("\\|*+?{}()[].^$".indexOf(c) < 0) {
        due("\u00ff" + c, "" + c, 1, 2);
        dueNone("\u00ff" + (char) (c ^ 128), "" + c);
      }
    }
    due("n\n", "\\n", 1, 2);
    due("t\t", "\\t", 1, 2);
    due("\t\n", "\\n", 1, 2);
  }

  /** \d the digits. */
  private static void digits() {
    MatchTest.dueBytes("\\d", false, 10, "0123456789", "/:a");
    MatchTest.dueBytes("[\\d]", false, 10, "0123456789", "/:a");
    MatchTest.dueBytes("[^\\d]", false, 246, "/:a", "0123456789");
  }

  /** \w letters, digits and _ . */
  private static void words() {
    MatchTest.dueBytes("\\w", false, 63, "azAZ09_", "/:@[`{^\u0080\u00e9\u00ff");
    MatchTest.dueBytes("[\\w]", false, 63, "azAZ09_", "/:@[`{^\u0080\u00e9\u00ff");
    MatchTest.dueBytes("\\w", true, 63, "azAZ09_", "/:@[`{^\u0080\u00e9\u00ff");
  }

  /** \s 9, 10, 32. */
  private static void blanks() {
    MatchTest.dueBytes("\\s", false, 3, "\t\n ", "\b\u000b\f\r\u001f!\u0089\u008a\u00a0");
    MatchTest.dueBytes("[\\s]", false, 3, "\t\n ", "\b\u000b\f\r\u001f!\u0089\u008a\u00a0");
  }

  /** . all but 10. */
  private static void allButTheLineBreak() {
    MatchTest.dueBytes(".", false, 255, "\t\u000b\u0000\u00ff\u008a", "\n");
    MatchTest.dueBytes(".", true, 255, "\t\u000b\u0000\u00ff\u008a", "\n");
  }

  /** [ ]: those of its PIECES (ONE - ONE: both, and all between them). */
  private static void rangesWithBothEnds() {
    MatchTest.dueBytes("[b-d]", false, 3, "bcd", "aeBCD");
    MatchTest.dueBytes("[b-b]", false, 1, "b", "ac");
    MatchTest.dueBytes("[ -~]", false, 95, " ~A", "\u001f\u007f");
    MatchTest.dueBytes("[\\t-~]", false, 118, "\t\n\r ~", "\b\u007f");
    MatchTest.dueBytes("[\\t-\\n]", false, 2, "\t\n", "\b\u000b");
    MatchTest.dueBytes("[?-A]", false, 3, "?@A", ">B");
    MatchTest.dueBytes("[a-cc-eb]", false, 5, "abcde", "f");
    MatchTest.dueBytes("[_\\d\\s]", false, 14, "_09 \t\n", "a");
  }

  /** [^ ]: all that are none of these. */
  private static void noneOfThese() {
    MatchTest.dueBytes("[^b-d]", false, 253, "ae\n\u0000\u00ff", "bcd");
    MatchTest.dueBytes("[^ -~]", false, 161, "\u001f\u007f\n\u0000\u00ff", " ~a");
    MatchTest.dueBytes("[^\\w\\s]", false, 190, "-\u00e9", "a_ \n\t");
    MatchTest.dueBytes("[^\\t-~]", false, 138, "\b\u007f\u00ff", "\t\n ~");
  }

  /** With FOLD, for each letter among what a PLAIN tells .. the same one small and capital. */
  private static void foldOfLetters() {
    for (char c = 'a'; c <= 'z'; c++) {
      String both = "" + c + Character.toUpperCase(c);
      MatchTest.dueBytes("" + c, true, 2, both, "");
      MatchTest.dueBytes("" + Character.toUpperCase(c), true, 2, both, "");
    }
    MatchTest.dueHit("xHeLlO", "hEllO", true, 1, 6);
  }

  /** .. for each letter: for no other sign, plain, escaped or a piece. */
  private static void foldOfNoLetters() {
    for (String sign : new String[] {"@", "`", "[", "{", "0", "9", "^", "~", "_", "\\"}) {
      String other = "" + (char) (sign.charAt(0) ^ 32);
      boolean isDigit = Character.isDigit(sign.charAt(0));
      MatchTest.dueBytes(isDigit ? sign : "\\" + sign, true, 1, sign, other);
      MatchTest.dueBytes(isDigit ? "[" + sign + "]" : "[\\" + sign + "]", true, 1, sign, other);
    }
    MatchTest.dueBytes("@", true, 1, "@", "`");
    MatchTest.dueBytes("`", true, 1, "`", "@");
    MatchTest.dueBytes("\\n", true, 1, "\n", "nN*J");
    MatchTest.dueBytes("\\t", true, 1, "\t", "tT");
  }

  /** .. or the PIECES. */
  private static void foldOfPieces() {
    MatchTest.dueBytes("[a]", true, 2, "aA", "bB");
    MatchTest.dueBytes("[Z]", true, 2, "zZ", "yY");
    MatchTest.dueBytes("[a-c]", true, 6, "abcABC", "dD@`");
    MatchTest.dueBytes("[X-Z]", true, 6, "xyzXYZ", "wW[{");
    MatchTest.dueBytes("[@-A]", true, 3, "@Aa", "`");
    MatchTest.dueBytes("[z-{]", true, 3, "{zZ", "[");
    MatchTest.dueBytes("[A-z]", true, 58, "AZaz[\\]^_`", "@{");
    MatchTest.dueBytes("[\\dx]", true, 12, "09xX", "");
    MatchTest.dueBytes("[\\s]", true, 3, " \t\n", "");
  }

  /** .. (ahead of the ^). */
  private static void foldAheadOfTheHat() {
    MatchTest.dueBytes("[^a]", true, 254, "b", "aA");
    MatchTest.dueBytes("[^X-Z]", true, 250, "wW", "xyzXYZ");
    MatchTest.dueBytes("[^a-z]", true, 204, "@[`{", "azAZ");
    MatchTest.dueBytes("[^\\d]", true, 246, "aA", "0");
  }

  /** Without it a letter is itself alone. */
  private static void noFold() {
    MatchTest.dueBytes("a", false, 1, "a", "A");
    MatchTest.dueBytes("Z", false, 1, "Z", "z");
    MatchTest.dueBytes("[a-c]", false, 3, "abc", "ABC");
    MatchTest.dueBytes("[^a-z]", false, 230, "A@{", "a");
  }

  /** ^: j is i, and i is 0, or the BYTE ahead of i is 10. */
  private static void lineFront() {
    due("ab", "^", 0, 0);
    due("ab", "^a", 0, 1);
    dueNone("ab", "^b");
    due("a\nb", "^b", 2, 3);
    due("a\n\n", "\\n^$", 1, 2);
    due("\n", "\\n^", 0, 1);
    dueNone("a\rb", "^b");
    dueNone("a\u008ab", "^b");
    due("ab", "^^^a^*", 0, 1);
    due("b\nb", "b\\n^b", 0, 3);
  }

  /** $: j is i, and i is n, or the BYTE at i is 10. */
  private static void lineBack() {
    due("ab", "$", 2, 2);
    due("ab", "b$", 1, 2);
    dueNone("ab", "a$");
    due("a\nb", "a$", 0, 1);
    due("a\nb", "$", 1, 1);
    due("\n", "$", 0, 0);
    dueNone("a\rb", "a$");
    dueNone("a\u008ab", "a$");
    due("ab", "b$$$", 1, 2);
    due("a\nb", "a$\\nb$", 0, 3);
  }

  /** \b: .. of the BYTE ahead of i and that at i just one is there and one of those of \w. */
  private static void wordEdge() {
    due("ab", "\\b", 0, 0);
    due("-ab", "\\b", 1, 1);
    due("-ab-", "b\\b", 2, 3);
    due("ab", "b\\b", 1, 2);
    dueNone("ab", "a\\b");
    dueNone("", "\\b");
    dueNone("-", "\\b");
    dueNone("- -", "\\b");
    dueNone("a_", "a\\b");
    dueNone("a0", "a\\b");
    dueNone("aZ", "a\\b");
    due("a@", "a\\b", 0, 1);
    due("a[", "a\\b", 0, 1);
    due("a`", "a\\b", 0, 1);
    due("a{", "a\\b", 0, 1);
    due("a/", "a\\b", 0, 1);
    due("a:", "a\\b", 0, 1);
    due("a\u00e9", "a\\b", 0, 1);
    due("\u00e9a", "\\ba", 1, 2);
    due("a", "\\b\\ba\\b\\b", 0, 1);
  }

  /** A CAT: .. (of none: j is i). */
  private static void catOfNone() {
    due("abc", "", 0, 0);
    due("abc", "()", 0, 0);
    due("abc", "a()b", 0, 2);
    due("abc", "(x|)c", 2, 3);
    due("abc", "(x|)", 0, 0);
  }

  /** .. by its REPS, one behind the other. */
  private static void catInTurn() {
    due("abab", "aba", 0, 3);
    dueNone("ba", "ab");
    due("aab", "a*ab", 0, 3);
    due("abcabd", "ab(c|d)abd", 0, 6);
    dueNone("abc", "a(b)(b)c");
  }

  /** An ALT: by one of its CATS. */
  private static void altByOne() {
    due("xb", "a|b", 1, 2);
    due("xc", "a|b|c", 1, 2);
    dueNone("xd", "a|b|c");
    due("xbc", "x(a|bc|b)c", 0, 3);
    due("xbcc", "x(a|bc|b)c", 0, 4);
    dueNone("ab", "^(a|b)$");
  }

  /** e*: by e any number of times, one behind the other, also none. */
  private static void anyNumberOfTimes() {
    for (String regex : new String[] {"^a*$", "^a{0,}$", "^(a)*$"}) {
      due("", regex, 0, 0);
      due("a", regex, 0, 1);
      due("aa", regex, 0, 2);
      due("a".repeat(1000), regex, 0, 1000);
      dueNone("aab", regex);
    }
    due("baa", "a*", 0, 0);
  }

  /** e+: at least once. */
  private static void onceOrMore() {
    for (String regex : new String[] {"^a+$", "^a{1,}$", "^(a)+$", "^aa*$"}) {
      dueNone("", regex);
      due("a", regex, 0, 1);
      due("aa", regex, 0, 2);
      due("a".repeat(1000), regex, 0, 1000);
      dueNone("aab", regex);
    }
    due("baa", "a+", 1, 3);
  }

  /** e?: once or not at all. */
  private static void onceOrNot() {
    for (String regex : new String[] {"^a?$", "^a{0,1}$", "^(a|)$"}) {
      due("", regex, 0, 0);
      due("a", regex, 0, 1);
      dueNone("aa", regex);
    }
    due("aa", "a?", 0, 1);
    due("ba", "a?", 0, 0);
  }

  /** e{n}: n times. */
  private static void exactlySoOften() {
    for (int n = 0; n <= 20; n++) {
      String regex = "^a{" + n + "}$";
      if (n > 0) {
        dueNone("a".repeat(n - 1), regex);
      }
      due("a".repeat(n), regex, 0, n);
      dueNone("a".repeat(n + 1), regex);
    }
    due("abab", "(ab){2}", 0, 4);
    dueNone("abba", "(ab){2}");
    due("abba", "(ab|ba){2}", 0, 4);
  }

  /** e{n,}: n times and more. */
  private static void soOftenAndMore() {
    for (int n = 1; n <= 20; n++) {
      String regex = "^a{" + n + ",}$";
      dueNone("a".repeat(n - 1), regex);
      due("a".repeat(n), regex, 0, n);
      due("a".repeat(n + 1), regex, 0, n + 1);
      due("a".repeat(n + 30), regex, 0, n + 30);
    }
  }

  /** e{n,m}: n to m times. */
  private static void soOftenToSoOften() {
    int[][] counts = {{0, 0}, {0, 1}, {0, 2}, {1, 1}, {1, 2}, {2, 5}, {3, 3}, {0, 20}, {19, 20}, {20, 20}};
    for (int[] count : counts) {
      String regex = "^a{" + count[0] + "," + count[1] + "}$";
      for (int times = 0; times <= 22; times++) {
        if (times >= count[0] && times <= count[1]) {
          due("a".repeat(times), regex, 0, times);
        } else {
          dueNone("a".repeat(times), regex);
        }
      }
    }
    due("aaaa", "a{2,3}", 0, 3);
    due("abaabab", "(a|ab){2,3}", 0, 5);
  }

  /** Any number of times of what leads from i to i: it ends, and leads on. */
  private static void timesOfNothing() {
    for (String regex : new String[] {"()*", "(|)+", "(a*)*", "(a*)+", "(a?){20}", "(^|$)*", "((a*)*)*", "(){0,20}",
        "(a{0}){3,}", "(\\b|^)*"}) {
      due("b", regex, 0, 0);
      due("b", regex + "b", 0, 1);
    }
    due("aab", "(a*)*b", 0, 3);
    due("aab", "(a*|b)*", 0, 3);
    due("aab", "(^a|\\b|a)*b", 0, 3);
    due("aab", "(a*){3}b", 0, 3);
    due("aaa", "^(a?){2}", 0, 2);
  }

  // ---- hits

  /** .. its BEGIN is the least place from which it does. */
  private static void leastBegin() {
    due("xabab", "ab", 1, 3);
    due("xxab", "b|ab|xab", 1, 4);
    due("xxab", "b|ab|x*b", 2, 4);
    due("aaab", "a?b|aa", 0, 2);
    due("abcde", "e|d|c", 2, 3);
    due("abcde", "cde|b", 1, 2);
    due("abcde", "c|abcde", 0, 5);
    due("abcdx", "c|abcde", 2, 3);
  }

  /** .. its END the greatest place to which it does from there. */
  private static void greatestEnd() {
    due("abcabc", "a|ab|abc", 0, 3);
    due("abcabc", "abc|ab|a", 0, 3);
    due("abcabc", "(abc)*", 0, 6);
    due("abcabc", "(abc)?", 0, 3);
    due("aXbXc", "a.*X", 0, 4);
    due("a\nb\n", "a.*$", 0, 1);
    due("a\nb\n", "a[^x]*$", 0, 4);
    due("abcd", "a|abcx|abc", 0, 3);
  }

  /** .. from there: not the end of a later begin. */
  private static void endOfThatBegin() {
    due("abbb", "a|b*", 0, 1);
    due("abxbbbb", "ab|b+", 0, 2);
    due("aab", "a|ab", 0, 1);
    due("abcabcd", "abc(d|)", 0, 3);
    due("abcdefg", "abcdefx|b|bcdefg|abc", 0, 3);
    due("abcdefg", "abcdefx|b|bcdefg", 1, 7);
  }

  /** the FILES that MEET its WANT are OPENED, by their NUMBERS. */
  private static void openedByNumbers() {
    GramFinder x = new GramFinder();
    for (String bytes : new String[] {"zabc", "none", "abc", "abcd", "", "abc"}) {
      Check.add(x, bytes);
    }
    x.remove(2);
    Check.change(x, 1, "xabcx");
    Check.add(x, "abc");
    Check.due("search", Check.search(x, "abc", false), 5);
    int[] opened = {0, 1, 3, 5, 6, NONE};
    for (int i = 0; i < opened.length; i++) {
      Check.due("opened(" + i + ")", x.opened(i), opened[i]);
      Check.due("hit(" + i + ", 0)", x.hit(i, 0), opened[i]);
    }
  }

  /** .. no others are looked into: a part of the grams of a choice is not enough. */
  private static void noOthersAreOpened() {
    GramFinder x = new GramFinder();
    for (String bytes : new String[] {"abc", "bcd", "abc bcd", "abcd", "ab cd", "xyz", "abc xyz", ""}) {
      Check.add(x, bytes);
    }
    dueOpened(x, "abcd", 2, 3);
    dueOpened(x, "abcd|xyz", 2, 3, 5, 6);
    dueOpened(x, "abc.*xyz", 6);
    dueOpened(x, "abcde");
    dueOpened(x, "ab", 0, 1, 2, 3, 4, 5, 6, 7);
    dueOpened(x, "(abc)*", 0, 1, 2, 3, 4, 5, 6, 7);
    Check.due("count(7)", x.count(7), 2 + 4 + 1 + 8 + 8);
  }

  private static void dueOpened(GramFinder x, String regex, int... files) {
    Check.due("search(" + regex + ")", Check.search(x, regex, false) >= 0, true);
    for (int i = 0; i <= files.length; i++) {
      Check.due("opened(" + i + ") of " + regex, x.opened(i), i < files.length ? files[i] : NONE);
    }
  }

  /** .. those of them that are HITS are its HITS. */
  private static void openedButNoHit() {
    GramFinder x = new GramFinder();
    for (String bytes : new String[] {"abc bcd", "abcd", "bcd abc", "xabcd"}) {
      Check.add(x, bytes);
    }
    Check.due("search", Check.search(x, "abcd", false), 2);
    Check.due("opened(3)", x.opened(3), 3);
    Check.due("hit(0, 0)", x.hit(0, 0), 1);
    Check.due("hit(1, 0)", x.hit(1, 0), 3);
    Check.due("hit(2, 0)", x.hit(2, 0), NONE);
    Check.due("count(7)", x.count(7), 4);
    Check.due("count(8)", x.count(8), 2);
  }

  /** As many as there may be: 40 FILES, and the last ones that may come. */
  private static void hitsOfForty() {
    GramFinder x = new GramFinder();
    for (int f = 0; f < 160; f++) {
      x.add();
      x.remove(f);
    }
    for (int f = 160; f < 200; f++) {
      Check.write(x, "\n".repeat(f % 2) + "a");
      x.add();
    }
    Check.due("search", Check.search(x, "a", false), 40);
    for (int i = 0; i < 40; i += 13) {
      Check.due("opened(" + i + ")", x.opened(i), 160 + i);
      Check.due("hit(" + i + ", 0)", x.hit(i, 0), 160 + i);
      Check.due("hit(" + i + ", 1)", x.hit(i, 1), i % 2);
      Check.due("hit(" + i + ", 2)", x.hit(i, 2), i % 2 + 1);
      Check.due("hit(" + i + ", 3)", x.hit(i, 3), i % 2 + 1);
    }
    Check.due("opened(40)", x.opened(40), NONE);
    Check.due("hit(40, 0)", x.hit(40, 0), NONE);
  }

  /** NONE for others, or if there is none such. */
  private static void hitOfOthers() {
    GramFinder x = new GramFinder();
    Check.add(x, "abc");
    Check.add(x, "abd");
    Check.add(x, "aabc");
    Check.due("search", Check.search(x, "ab[cx]", false), 2);
    int[][] hits = {{0, 0, 3, 1}, {2, 1, 4, 1}};
    for (int i = 0; i < 2; i++) {
      for (int what = 0; what <= 3; what++) {
        Check.due("hit(" + i + ", " + what + ")", x.hit(i, what), hits[i][what]);
      }
      Check.due("hit(" + i + ", 4)", x.hit(i, 4), NONE);
      Check.due("hit(" + i + ", -1)", x.hit(i, -1), NONE);
    }
    for (int what = -1; what <= 4; what++) {
      Check.due("hit(2, " + what + ")", x.hit(2, what), NONE);
      Check.due("hit(-1, " + what + ")", x.hit(-1, what), NONE);
    }
    for (int n : Check.WILD) {
      Check.due("hit(0, " + n + ")", x.hit(0, n), NONE);
      Check.due("hit(1, " + n + ")", x.hit(1, n), NONE);
      Check.due("hit(" + n + ", 0)", x.hit(n, 0), NONE);
      Check.due("hit(" + n + ", 3)", x.hit(n, 3), NONE);
    }
  }

  /** opened: NONE if there is none such. */
  private static void openedOfNoneSuch() {
    GramFinder x = new GramFinder();
    Check.add(x, "abc");
    Check.add(x, "xyz");
    Check.search(x, "abc", false);
    Check.due("opened(0)", x.opened(0), 0);
    Check.due("opened(1)", x.opened(1), NONE);
    Check.due("opened(-1)", x.opened(-1), NONE);
    for (int i : Check.WILD) {
      Check.due("opened(" + i + ")", x.opened(i), NONE);
    }
  }

  /** What is told of the latest SEARCH is as it was then, whatever becomes of the FILES. */
  private static void asItWasThen() {
    GramFinder x = new GramFinder();
    Check.add(x, "\n\nabc");
    Check.add(x, "abc");
    Check.add(x, "ab");
    Check.search(x, "abc", false);
    Check.change(x, 0, "");
    x.remove(1);
    Check.change(x, 2, "abc");
    Check.add(x, "abc");
    int[][] hits = {{0, 2, 5, 3}, {1, 0, 3, 1}, {NONE, NONE, NONE, NONE}};
    for (int i = 0; i < hits.length; i++) {
      Check.due("opened(" + i + ")", x.opened(i), i < 2 ? i : NONE);
      for (int what = 0; what < 4; what++) {
        Check.due("hit(" + i + ", " + what + ")", x.hit(i, what), hits[i][what]);
      }
    }
    Check.due("choice(0)", x.choice(0), 1);
    Check.due("gram(0, 0)", x.gram(0, 0), Check.gram("abc"));
    Check.due("texts(0)", x.texts(0), 1);
    Check.due("text(0, 0, 2)", x.text(0, 0, 2), 'c');
    Check.due("count(7)", x.count(7), 2);
    Check.due("count(8)", x.count(8), 2);
    Check.due("count(9)", x.count(9), 3);
    Check.due("search again", Check.search(x, "abc", false), 2);
    Check.due("opened(0)", x.opened(0), 2);
    Check.due("opened(1)", x.opened(1), 3);
  }

  /** Of the latest SEARCH: of an earlier one with more to tell nothing stays. */
  private static void latestSearchAlone() {
    GramFinder x = new GramFinder();
    Check.add(x, "abcde");
    Check.add(x, "abcd");
    Check.search(x, "abcde|xabcd|yabcd|abcd", true);
    Check.search(x, "b+|c", false);
    Check.due("hit(0, 1)", x.hit(0, 1), 1);
    Check.due("choice(NONE)", x.choice(NONE), 1);
    Check.due("choice(0)", x.choice(0), 0);
    Check.due("choice(1)", x.choice(1), NONE);
    Check.due("gram(0, 0)", x.gram(0, 0), NONE);
    Check.due("texts(0)", x.texts(0), 0);
    Check.due("texts(1)", x.texts(1), 2);
    Check.due("text(0, 0, 0)", x.text(0, 0, 0), NONE);
    Check.search(x, "zzz", false);
    Check.due("opened(0)", x.opened(0), NONE);
    Check.due("hit(0, 0)", x.hit(0, 0), NONE);
    Check.due("gram(0, 0)", x.gram(0, 0), Check.gram("zzz"));
    Check.due("count(6)", x.count(6), 3);
    Check.due("count(7)", x.count(7), 2 + 2);
    Check.due("count(8)", x.count(8), 2 + 2);
  }

  /** NONE ahead of any SEARCH. */
  private static void aheadOfAny() {
    GramFinder x = new GramFinder();
    Check.add(x, "abc");
    for (int i = -1; i <= 1; i++) {
      Check.due("opened(" + i + ")", x.opened(i), NONE);
      for (int what = -1; what <= 4; what++) {
        Check.due("hit(" + i + ", " + what + ")", x.hit(i, what), NONE);
      }
    }
  }
}
