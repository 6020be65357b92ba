/** Promises 14 to 17: what is wanted of a file, and the texts, heads and tails from which it is worked out. */
public final class WantTest {
  private static final int NONE = GramFinder.NONE;

  private WantTest() {}

  public static void main(String[] args) {
    exact();
    shut();
    sideBySide();
    eitherOf();
    counts();
    headsAndTails();
    coreOfOne();
    least();
    meets();
    choiceAndGram();
    textAndTexts();
    Check.finish();
  }

  /** All that is told of a regex: its choices, its texts, its heads and tails, each in < >. */
  static void due(String regex, boolean fold, String choices, String texts, String heads, String tails) {
    GramFinder x = new GramFinder();
    String call = regex + (fold ? " with fold" : "");
    Check.due("search of " + call + " has no fault", Check.search(x, regex, fold), 0);
    Check.dueText("choices of " + call, Check.choicesOf(x), choices);
    Check.dueText("texts of " + call, Check.textsOf(x, 0), texts);
    Check.dueText("heads of " + call, Check.textsOf(x, 1), heads);
    Check.dueText("tails of " + call, Check.textsOf(x, 2), tails);
  }

  static void due(String regex, String choices, String texts, String heads, String tails) {
    due(regex, false, choices, texts, heads, tails);
  }

  private static void exact() {
    due("", "<>", "<>", "<>", "<>");
    due("a", "<>", "<a>", "<a>", "<a>");
    due("abcd", "<abc bcd>", "<abcd>", "<ab>", "<cd>");
    due("abcabc", "<abc bca cab>", "<abcabc>", "<ab>", "<bc>");
    due("^a\\bbc$", "<abc>", "<abc>", "<ab>", "<bc>");
    due("[ab]c", "<>", "<ac><bc>", "<ac><bc>", "<ac><bc>");
    due("[b-dA]xy", "<Axy><bxy><cxy><dxy>", "<Axy><bxy><cxy><dxy>", "<Ax><bx><cx><dx>", "<xy>");
    due("\\n\\t\\.", "<\n\t.>", "<\n\t.>", "<\n\t>", "<\t.>");
    due("\\s", "<>", "<\t><\n>< >", "<\t><\n>< >", "<\t><\n>< >");
    due("[a-h]", "<>", "<a><b><c><d><e><f><g><h>", "<a><b><c><d><e><f><g><h>", "<a><b><c><d><e><f><g><h>");
    due("ab", true, "<>", "<AB><Ab><aB><ab>", "<AB><Ab><aB><ab>", "<AB><Ab><aB><ab>");
    due("1a1", true, "<1A1><1a1>", "<1A1><1a1>", "<1A><1a>", "<A1><a1>");
    due("[a-d]", true, "<>", "<A><B><C><D><a><b><c><d>", "<A><B><C><D><a><b><c><d>", "<A><B><C><D><a><b><c><d>");
  }

  private static void shut() {
    for (String regex : new String[] {".", "[a-i]", "[^a]", "\\d", "\\w", "a*", "(abc)*", "a{0,}", "(abc){0,}"}) {
      due(regex, "<>", "", "<>", "<>");
    }
    due("[a-e]", true, "<>", "", "<>", "<>");
  }

  private static void sideBySide() {
    due("abc.", "<abc>", "", "<ab>", "<>");
    due(".abc", "<abc>", "", "<>", "<bc>");
    due("abc.def", "<abc def>", "", "<ab>", "<ef>");
    due("ab.cd", "<>", "", "<ab>", "<cd>");
    due("[a-h][a-h]", "<>", "", "<a><b><c><d><e><f><g><h>", "<a><b><c><d><e><f><g><h>");
    due("[ab][cd][ef]", "<ace><acf><ade><adf><bce><bcf><bde><bdf>",
        "<ace><acf><ade><adf><bce><bcf><bde><bdf>", "<ac><ad><bc><bd>", "<ce><cf><de><df>");
    due("[ab][cd][ef]g", "<ace ceg><acf cfg><ade deg><adf dfg><bce ceg><bcf cfg><bde deg><bdf dfg>",
        "<aceg><acfg><adeg><adfg><bceg><bcfg><bdeg><bdfg>", "<ac><ad><bc><bd>", "<eg><fg>");
    due("[abc][def]", "<>", "", "<ad><ae><af><bd><be><bf><cd><ce><cf>", "<ad><ae><af><bd><be><bf><cd><ce><cf>");
    due("a{20}a{20}a{20}", "<aaa>", "<" + "a".repeat(60) + ">", "<aa>", "<aa>");
    due("a{20}a{20}a{20}b", "<aaa aab>", "", "<aa>", "<ab>");
    due("(a|aa)(a|aa)", "<>", "<aa><aaa><aaaa>", "<aa>", "<aa>");
    due("(a|)(b|)(c|)", "<>", "<><a><ab><abc><ac><b><bc><c>", "<>", "<>");
  }

  private static void eitherOf() {
    due("abc|abd", "<abc><abd>", "<abc><abd>", "<ab>", "<bc><bd>");
    due("abc|", "<>", "<><abc>", "<>", "<>");
    due("abc|abc|xabc", "<abc>", "<abc><xabc>", "<ab><xa>", "<bc>");
    due("abc|.", "<>", "", "<>", "<>");
    due("abc.|abd", "<abc><abd>", "", "<ab>", "<>");
    due("abcd.|xabc.|bcd.", "<abc xab><bcd>", "", "<ab><bc><xa>", "<>");
    due("[a-h]|i", "<>", "", "<a><b><c><d><e><f><g><h><i>", "<a><b><c><d><e><f><g><h><i>");
    due("(a|ab|b)x", "<>", "<abx><ax><bx>", "<ab><ax><bx>", "<ax><bx>");
  }

  private static void counts() {
    due("(abc)+", "<abc>", "", "<ab>", "<bc>");
    due("(abc){1,}", "<abc>", "", "<ab>", "<bc>");
    due("(abc){2,}", "<abc bca cab>", "", "<ab>", "<bc>");
    due("(abc)?", "<>", "<><abc>", "<>", "<>");
    due("(abc){0}", "<>", "<>", "<>", "<>");
    due("(abc){2}", "<abc bca cab>", "<abcabc>", "<ab>", "<bc>");
    due("x(abc){1,2}", "<abc xab>", "<xabc><xabcabc>", "<xa>", "<bc>");
    due("a{0,7}", "<>", "<><a><aa><aaa><aaaa><aaaaa><aaaaaa><aaaaaaa>", "<>", "<>");
    due("a{0,8}", "<>", "", "<>", "<>");
    due("a{3,10}", "<aaa>", "<aaa><aaaa><aaaaa><aaaaaa><aaaaaaa><aaaaaaaa><aaaaaaaaa><aaaaaaaaaa>", "<aa>", "<aa>");
    due("a{3,11}", "<aaa>", "", "<aa>", "<aa>");
    due("(a+b){2}", "<aba>", "", "<a>", "<ab>");
    due("(ab+){2}", "<bab>", "", "<ab>", "<b>");
    due("(a+bc){2}", "<abc bca>", "", "<a>", "<bc>");
    due("(" + "a{20}".repeat(3) + "){0}b", "<>", "<b>", "<b>", "<b>");
  }

  private static void headsAndTails() {
    due("ab|b", "<>", "<ab><b>", "<ab><b>", "<b>");
    due("a|ab", "<>", "<a><ab>", "<a>", "<a><ab>");
    due(".ab|.b", "<>", "", "<>", "<b>");
    due(".a|.ab", "<>", "", "<>", "<a><ab>");
    due("ab.|b.", "<>", "", "<ab><b>", "<>");
    due("a.|ab.", "<>", "", "<a>", "<>");
    due("(abc|a).", "<>", "", "<a>", "<>");
    due(".(abc|c)", "<>", "", "<>", "<c>");
    due("(abc|bcd|d).", "<>", "", "<ab><bc><d>", "<>");
    due(".(ab|cb|b|xy)", "<>", "", "<>", "<b><xy>");
    due("[a-h].|[i-l].", "<>", "", "<a><b><c><d><e><f><g><h><i><j><k><l>", "<>");
    due("[a-h].|[i-m].", "<>", "", "<>", "<>");
    due(".[a-h]|.[i-l]", "<>", "", "<>", "<a><b><c><d><e><f><g><h><i><j><k><l>");
    due(".[a-h]|.[i-m]", "<>", "", "<>", "<>");
    due("[a-h]x.|[i-l]y.", "<>", "", "<ax><bx><cx><dx><ex><fx><gx><hx><iy><jy><ky><ly>", "<>");
    due("[a-h]x.|[f-l]y.", "<>", "", "<a><b><c><d><e><f><g><h><i><j><k><l>", "<>");
    due("(a|b)([c-f])([a-g]).", "<>", "", "<ac><ad><ae><af><bc><bd><be><bf>", "<>");
    due("a.|ab.|abc.", "<>", "", "<a>", "<>");
  }

  /** More than 24 together: the choices of one with the core of the other. */
  private static void coreOfOne() {
    due("[a-e]xx.[a-e]yy", "<axx><bxx><cxx><dxx><exx>", "", "<ax><bx><cx><dx><ex>", "<yy>");
    due("[a-e]xx.[a-d]yy", both("abcde", "abcd"), "", "<ax><bx><cx><dx><ex>", "<yy>");
    due("[a-f]xx.[a-e]yy", "<ayy><byy><cyy><dyy><eyy>", "", "<ax><bx><cx><dx><ex><fx>", "<yy>");
    due("[a-e]xx.[a-e]yyy", "<axx yyy><bxx yyy><cxx yyy><dxx yyy><exx yyy>", "",
        "<ax><bx><cx><dx><ex>", "<yy>");
    due("[b-f]xx.[b-g]yyaaa", "<aaa bxx yaa yya><aaa cxx yaa yya><aaa dxx yaa yya><aaa exx yaa yya><aaa fxx yaa yya>",
        "", "<bx><cx><dx><ex><fx>", "<aa>");
    due("[a-f]xxx.[a-e]yy", "<ayy xxx><byy xxx><cyy xxx><dyy xxx><eyy xxx>", "",
        "<ax><bx><cx><dx><ex><fx>", "<yy>");
  }

  private static String both(String first, String second) {
    StringBuilder all = new StringBuilder();
    for (char f : first.toCharArray()) {
      for (char s : second.toCharArray()) {
        String p = f + "xx";
        String q = s + "yy";
        all.append('<').append(f <= s ? p + " " + q : q + " " + p).append('>');
      }
    }
    java.util.TreeSet<String> ordered = new java.util.TreeSet<>();
    for (String set : all.toString().split("(?<=>)")) {
      ordered.add(set);
    }
    return String.join("", ordered);
  }

  /** More than 24 choices of alternatives: their core. */
  private static void least() {
    due("[a-h]xx.|[a-h]yy.|[a-h]zz.", eachOf("abcdefgh", "xx", "yy", "zz"), "",
        "<a><b><c><d><e><f><g><h>", "<>");
    due("[a-h]xx.|[a-h]yy.|[a-h]zz.|kkk.", "<>", "", "<a><b><c><d><e><f><g><h><kk>", "<>");
    due("(kkk.)([a-h]xx.|[a-h]yy.|[a-h]zz.|lll.)", "<kkk>", "", "<kk>", "<>");
    due("kkk.[a-h]xx.|kkk.[a-h]yy.|kkk.[a-h]zz.", withWord("kkk", "abcdefgh", "xx", "yy", "zz"), "", "<kk>", "<>");
    due("kkk.mmm|lll.|kkk.[a-h]xx.|kkk.[a-h]yy.|kkk.[a-h]zz.", "<>", "", "<kk><ll>", "<>");
    due("kkk.[a-h]xx.|kkk.[a-h]yy.|kkk.[a-h]zz.|kkk.lll", "<kkk>", "", "<kk>", "<>");
  }

  private static String eachOf(String firsts, String... ends) {
    StringBuilder all = new StringBuilder();
    for (char first : firsts.toCharArray()) {
      for (String end : ends) {
        all.append('<').append(first).append(end).append('>');
      }
    }
    return all.toString();
  }

  private static String withWord(String word, String firsts, String... ends) {
    return eachOf(firsts, ends).replace(">", " " + word + ">");
  }

  /** Only files that have all grams of a choice are opened; of them, only those that match are hits. */
  private static void meets() {
    GramFinder x = new GramFinder();
    Check.add(x, "abc");
    Check.add(x, "abcdef");
    Check.add(x, "def abc");
    Check.add(x, "");
    Check.add(x, "xyz");
    Check.due("search(abc.*def)", Check.search(x, "abc.*def", false), 1);
    Check.due("opened(0)", x.opened(0), 1);
    Check.due("opened(1)", x.opened(1), 2);
    Check.due("opened(2)", x.opened(2), NONE);
    Check.due("hit(0, 0)", x.hit(0, 0), 1);
    Check.due("search(xyz|def)", Check.search(x, "xyz|def", false), 3);
    Check.due("opened(0)", x.opened(0), 1);
    Check.due("opened(2)", x.opened(2), 4);
    Check.due("search(z|q)", Check.search(x, "z|q", false), 1);
    Check.due("opened(3): all are", x.opened(3), 3);
    Check.due("opened(4): all are", x.opened(4), 4);
    Check.due("count(7)", x.count(7), 2 + 3 + 5);
  }

  private static void choiceAndGram() {
    GramFinder x = new GramFinder();
    Check.search(x, "xyzab|\\d\\dxcde", false);
    Check.due("choice(NONE)", x.choice(NONE), 2);
    Check.due("choice(0)", x.choice(0), 2);
    Check.due("choice(1)", x.choice(1), 3);
    Check.due("choice(2)", x.choice(2), NONE);
    Check.due("gram(0, 0)", x.gram(0, 0), Check.gram("cde"));
    Check.due("gram(0, 1)", x.gram(0, 1), Check.gram("xcd"));
    Check.due("gram(0, 2)", x.gram(0, 2), NONE);
    Check.due("gram(1, 0)", x.gram(1, 0), Check.gram("xyz"));
    Check.due("gram(1, 1)", x.gram(1, 1), Check.gram("yza"));
    Check.due("gram(1, 2)", x.gram(1, 2), Check.gram("zab"));
    for (int wild : new int[] {-2, Integer.MIN_VALUE, 24, Integer.MAX_VALUE}) {
      Check.due("choice(" + wild + ")", x.choice(wild), NONE);
      Check.due("gram(" + wild + ", 0)", x.gram(wild, 0), NONE);
      Check.due("gram(0, " + wild + ")", x.gram(0, wild), NONE);
    }
    Check.due("gram(-1, 0)", x.gram(-1, 0), NONE);
    Check.due("gram(0, -1)", x.gram(0, -1), NONE);
  }

  private static void textAndTexts() {
    GramFinder x = new GramFinder();
    Check.search(x, "a|\\n|abc", false);
    Check.due("texts(0)", x.texts(0), 3);
    Check.due("texts(1)", x.texts(1), 2);
    Check.due("texts(2)", x.texts(2), 3);
    Check.due("text(0, 2, 2)", x.text(0, 2, 2), 'c');
    Check.due("text(0, 2, 3)", x.text(0, 2, 3), NONE);
    Check.due("text(0, 1, 1)", x.text(0, 1, 1), NONE);
    Check.due("text(0, 3, 0)", x.text(0, 3, 0), NONE);
    Check.due("text(1, 1, 0)", x.text(1, 1, 0), 'a');
    Check.due("text(1, 1, 1)", x.text(1, 1, 1), NONE);
    Check.due("text(2, 2, 0)", x.text(2, 2, 0), 'b');
    Check.due("text(2, 2, 1)", x.text(2, 2, 1), 'c');
    Check.due("text(2, 2, 2)", x.text(2, 2, 2), NONE);
    for (int wild : new int[] {-1, 3, Integer.MIN_VALUE, Integer.MAX_VALUE}) {
      Check.due("texts(" + wild + ")", x.texts(wild), NONE);
      Check.due("text(" + wild + ", 0, 0)", x.text(wild, 0, 0), NONE);
      Check.due("text(0, " + wild + ", 0)", x.text(0, wild, 0), NONE);
      Check.due("text(0, 0, " + wild + ")", x.text(0, 0, wild), NONE);
      Check.due("text(1, 0, " + wild + ")", x.text(1, 0, wild), NONE);
      Check.due("text(2, 0, " + wild + ")", x.text(2, 0, wild), NONE);
    }
    Check.search(x, "x+", false);
    Check.due("texts(0) of what is open", x.texts(0), 0);
    Check.due("text(0, 0, 0) of what is open", x.text(0, 0, 0), NONE);
    Check.due("texts(1) of what is open", x.texts(1), 1);
  }
}
