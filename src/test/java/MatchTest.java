/** Promises 10, 12 and 13: what matches, where it begins and ends, which files are opened and hit. */
public final class MatchTest {
  private static final int NONE = GramFinder.NONE;

  private MatchTest() {}

  public static void main(String[] args) {
    oneByte();
    brackets();
    fold();
    edges();
    counts();
    repeatsOfNothing();
    longestFromLeast();
    lines();
    hitsAndOpened();
    asItWasThen();
    Check.finish();
  }

  /** A file of these bytes has its hit from begin to end; begin NONE: it is none. */
  static void dueHit(String bytes, String regex, boolean fold, int begin, int end) {
    GramFinder x = new GramFinder();
    Check.add(x, bytes);
    String call = regex + (fold ? " with fold" : "") + " in " + bytes.replace("\n", "\\n");
    Check.due("search " + call, Check.search(x, regex, fold), begin == NONE ? 0 : 1);
    Check.due("hit(0, 0) of " + call, x.hit(0, 0), begin == NONE ? NONE : 0);
    Check.due("hit(0, 1) of " + call, x.hit(0, 1), begin);
    Check.due("hit(0, 2) of " + call, x.hit(0, 2), end);
  }

  static void dueHit(String bytes, String regex, int begin, int end) {
    dueHit(bytes, regex, false, begin, end);
  }

  static void dueNone(String bytes, String regex) {
    dueHit(bytes, regex, false, NONE, NONE);
  }

  /** Which of the 256 bytes the regex matches: as many as told, and those told. */
  static void dueBytes(String regex, boolean fold, int many, String some, String none) {
    int matched = 0;
    for (int c = 0; c < 256; c++) {
      GramFinder x = new GramFinder();
      Check.add(x, "" + (char) c);
      matched += Check.search(x, regex, fold);
      Check.due(regex + ": " + c + " ends at", x.hit(0, 2), x.hit(0, 0) == 0 ? 1 : NONE);
      if (some.indexOf(c) >= 0 || none.indexOf(c) >= 0) {
        Check.due(regex + " matches " + c, x.hit(0, 0), some.indexOf(c) >= 0 ? 0 : NONE);
      }
    }
    Check.due("how many bytes " + regex + " matches", matched, many);
  }

  private static void oneByte() {
    dueBytes("a", false, 1, "a", "A");
    dueBytes(".", false, 255, "\u0000\r\u00ff", "\n");
    dueBytes("\\d", false, 10, "0123456789", "a");
    dueBytes("\\w", false, 63, "azAZ09_", "-\u00e9");
    dueBytes("\\s", false, 3, "\t\n ", "\r\u000b\u00a0");
    dueBytes("\\n", false, 1, "\n", "n");
    dueBytes("\\t", false, 1, "\t", "t");
    dueBytes("\\.", false, 1, ".", "a");
    dueBytes("\\\\", false, 1, "\\", "n");
    dueBytes("-", false, 1, "-", "");
  }

  private static void brackets() {
    dueBytes("[abc]", false, 3, "abc", "ABCd");
    dueBytes("[a-cx]", false, 4, "abcx", "d-");
    dueBytes("[^a-c]", false, 253, "d\n\u0000\u00ffA", "abc");
    dueBytes("[\\d\\s_]", false, 14, "0 \n_", "a");
    dueBytes("[^\\w]", false, 193, "-\n\u00ff", "aZ_0");
    dueBytes("[\\t-\\n]", false, 2, "\t\n", "t-n");
    dueBytes("[ -~]", false, 95, " ~a", "\n\u007f");
    dueBytes("[a^]", false, 2, "a^", "");
    dueBytes("[^^]", false, 255, "a", "^");
    dueBytes("[\\^\\]\\-\\\\]", false, 4, "^]-\\", "");
    dueBytes("[.$(|]", false, 4, ".$(|", "a)");
    dueBytes("[Z-a]", false, 8, "Z[\\]^_`a", "zA");
  }

  private static void fold() {
    dueBytes("a", true, 2, "aA", "");
    dueBytes("Z", true, 2, "zZ", "");
    dueBytes("1", true, 1, "1", "");
    dueBytes("\\_", true, 1, "_", "");
    dueBytes("[a-c]", true, 6, "abcABC", "dD");
    dueBytes("[^a-c]", true, 250, "d", "abcABC");
    dueBytes("[Z-a]", true, 10, "zZaA[_`", "bY");
    dueBytes("[^\\w]", true, 193, "-", "aA");
    dueBytes("\\n", true, 1, "\n", "nN");
    dueBytes("\\t", true, 1, "\t", "T");
    dueBytes("\\d", true, 10, "0", "dD");
    dueBytes("[@`{]", true, 3, "@`{", "[aA");
    dueHit("xABCx", "abc", true, 1, 4);
    dueHit("xABCx", "abc", false, NONE, NONE);
    dueHit("aBcD", "AbCd", true, 0, 4);
  }

  private static void edges() {
    dueHit("ab\nab", "^b", NONE, NONE);
    dueHit("ab\nba", "^b", 3, 4);
    dueHit("ab\nba", "b$", 1, 2);
    dueHit("ab", "b$", 1, 2);
    dueHit("ab\r\n", "b$", NONE, NONE);
    dueHit("", "^$", 0, 0);
    dueHit("a\n\nb", "^$", 2, 2);
    dueHit("a\n", "^$", 2, 2);
    dueHit("a", "^$", NONE, NONE);
    dueHit("a b", "\\bb", 2, 3);
    dueHit("ab", "\\bb", NONE, NONE);
    dueHit("a_1", "a\\b", NONE, NONE);
    dueHit("a-", "a\\b", 0, 1);
    dueHit("a", "a\\b", 0, 1);
    dueHit("-", "\\b", NONE, NONE);
    dueHit("", "\\b", NONE, NONE);
    dueHit("\u00e9a", "\\ba", 1, 2);
    dueHit("--a--", "\\b", 2, 2);
    dueHit("a\nb", "a$\\n^b", 0, 3);
    dueHit("ab", "a^b", NONE, NONE);
  }

  private static void counts() {
    dueHit("aaaa", "a{2}", 0, 2);
    dueHit("aaaa", "a{2,}", 0, 4);
    dueHit("aaaa", "a{2,3}", 0, 3);
    dueNone("aaaa", "a{5}");
    dueNone("aaaa", "a{5,}");
    dueHit("baab", "a{0}", 0, 0);
    dueHit("baab", "ba{0}", 0, 1);
    dueHit("baab", "ba{1,1}a?", 0, 3);
    dueHit("baab", "ba*b", 0, 4);
    dueHit("bb", "ba*b", 0, 2);
    dueNone("bb", "ba+b");
    dueHit("bab", "ba+b", 0, 3);
    dueHit("bab", "ba?b", 0, 3);
    dueNone("baab", "ba?b");
    dueHit("xababab", "(ab){2}", 1, 5);
    dueHit("xababab", "(ab)+", 1, 7);
    dueHit("xababab", "(ab){0,2}x", 0, 1);
    dueHit("aaaaaaaaaaaaaaaaaaaaa", "a{20}", 0, 20);
    dueHit("aab", "(a|ab)(b|c)?", 0, 1);
    dueHit("x".repeat(80), "x".repeat(80), 0, 80);
    dueHit("y" + "x".repeat(200), "(x{20}){10}", 1, 201);
    dueHit("abab", "(a|b){4}", 0, 4);
    dueHit("abcabc", "(abc){1,20}", 0, 6);
    dueNone("ab", "a{1,}b{2,}");
    dueHit("abb", "a{1,}b{2,}", 0, 3);
  }

  private static void repeatsOfNothing() {
    dueHit("ab", "", 0, 0);
    dueHit("", "", 0, 0);
    dueHit("ab", "()*", 0, 0);
    dueHit("ab", "(a*)*b", 0, 2);
    dueHit("aab", "(a*)+b", 0, 3);
    dueHit("ab", "(^)*a", 0, 1);
    dueHit("ab", "(|a){3}b", 0, 2);
    dueHit("aaab", "(|a){3}b", 0, 4);
    dueHit("aaaab", "(|a){3}b", 1, 5);
    dueHit("ba", "(b|)(b|)a", 0, 2);
    dueHit("a", "(\\b|a)*", 0, 1);
    dueHit("b", "((((((((((a*)*)*)*)*)*)*)*)*)*)*b", 0, 1);
    dueHit("aab", "(((((((((a*)*)*)*)*)*)*)*)*)*b", 0, 3);
    dueHit("xy", "(){20}(){3,}xy", 0, 2);
  }

  private static void longestFromLeast() {
    dueHit("xabcabcd", "abc|abcd", 1, 4);
    dueHit("xabcd", "abc|abcd", 1, 5);
    dueHit("abc", "b|abc", 0, 3);
    dueHit("abd", "b|abc", 1, 2);
    dueHit("abcd", "c|abcd|bc", 0, 4);
    dueHit("abce", "c|abcd|bc", 1, 3);
    dueHit("aaa", "a|aa", 0, 2);
    dueHit("abab", "(ab|a)(bab)?", 0, 4);
    dueHit("foo bar", "\\w*", 0, 3);
    dueHit(" foo", "\\w*", 0, 0);
    dueHit("a\nbc", ".*", 0, 1);
    dueHit("xay", "a?y|x", 0, 1);
  }

  private static void lines() {
    GramFinder x = new GramFinder();
    Check.add(x, "\n\na\nb");
    Check.search(x, "a", false);
    Check.due("line of a", x.hit(0, 3), 3);
    Check.search(x, "b", false);
    Check.due("line of b", x.hit(0, 3), 4);
    Check.search(x, "\\n", false);
    Check.due("line of the first line's end", x.hit(0, 3), 1);
    Check.search(x, "\\na", false);
    Check.due("begin ahead of a", x.hit(0, 1), 1);
    Check.due("line of the second line's end", x.hit(0, 3), 2);
  }

  private static void hitsAndOpened() {
    GramFinder x = new GramFinder();
    Check.add(x, "abcd");
    Check.add(x, "xabc bcd");
    Check.add(x, "abc");
    Check.add(x, "zabcd");
    Check.add(x, "abcd");
    x.remove(4);
    Check.due("search", Check.search(x, "abcd", false), 2);
    int[] opened = {0, 1, 3, NONE};
    for (int i = 0; i < opened.length; i++) {
      Check.due("opened(" + i + ")", x.opened(i), opened[i]);
    }
    int[][] hits = {{0, 0, 4, 1}, {3, 1, 5, 1}, {NONE, NONE, NONE, NONE}};
    for (int i = 0; i < hits.length; i++) {
      for (int what = 0; what < 4; what++) {
        Check.due("hit(" + i + ", " + what + ")", x.hit(i, what), hits[i][what]);
      }
    }
    for (int wild : new int[] {-1, 4, Integer.MIN_VALUE, Integer.MAX_VALUE}) {
      Check.due("hit(0, " + wild + ")", x.hit(0, wild), NONE);
      Check.due("hit(" + wild + ", 0)", x.hit(wild, 0), NONE);
      Check.due("opened(" + wild + ")", x.opened(wild), NONE);
    }
    Check.due("count(7)", x.count(7), 3);
    Check.due("count(8)", x.count(8), 2);
    Check.due("search of none", Check.search(x, "nowhere", false), 0);
    Check.due("opened(0) of none", x.opened(0), NONE);
    Check.due("hit(0, 0) of none", x.hit(0, 0), NONE);
  }

  private static void asItWasThen() {
    GramFinder x = new GramFinder();
    Check.add(x, "\nabc");
    Check.add(x, "abc");
    Check.search(x, "abc", false);
    x.remove(0);
    Check.change(x, 1, "\n\n\n");
    Check.add(x, "abcabc");
    Check.due("opened(0)", x.opened(0), 0);
    Check.due("opened(1)", x.opened(1), 1);
    Check.due("opened(2)", x.opened(2), NONE);
    Check.due("hit(0, 0)", x.hit(0, 0), 0);
    Check.due("hit(0, 1)", x.hit(0, 1), 1);
    Check.due("hit(0, 3)", x.hit(0, 3), 2);
    Check.due("hit(1, 0)", x.hit(1, 0), 1);
    Check.due("hit(1, 2)", x.hit(1, 2), 3);
    Check.due("hit(1, 3)", x.hit(1, 3), 1);
    Check.due("hit(2, 0)", x.hit(2, 0), NONE);
  }
}
