import java.util.TreeSet;

/** The edges of term 4: each method holds the sentence that stands above it. */
public final class WantEdgesTest {
  private WantEdgesTest() {}

  public static void main(String[] args) {
    orderOfTexts();
    allIsOneChoiceWithoutGrams();
    noChoiceIsPartOfAnother();
    meetsByOneWholeChoice();
    leastOfAlikeOnes();
    ofTwentyFourTexts();
    ofMoreThanTwentyFourTexts();
    eitherOfTwentyFour();
    eitherOfTwentyFourThatStay();
    eitherOfMoreThanTwentyFour();
    bothOfTwentyFour();
    bothOfTwentyFourThatStay();
    bothByCoreOfTheSecond();
    bothByCoreOfTheFirst();
    bothByCoreIsLeast();
    coreOfThese();
    headsOfFewerBytes();
    headsOfBeginnings();
    headsOfTwelve();
    headsByTheFirstByte();
    headsOfTwelveFirstBytes();
    headsOfMoreFirstBytes();
    tailsOfFewerBytes();
    tailsOfEnds();
    tailsOfTwelve();
    tailsByTheLastByte();
    tailsOfTwelveLastBytes();
    tailsOfMoreLastBytes();
    oneByteOfEight();
    noByteParts();
    besideUpToEightTexts();
    besideAlikeTexts();
    besideUpToSixtyBytes();
    besideOpen();
    headsThroughShortTexts();
    tailsThroughShortTexts();
    gramsOverTheJoint();
    eitherUpToEightTexts();
    eitherOpen();
    anyTimesIsShut();
    onceOrMoreIsOpened();
    onceOrNot();
    timesOfExact();
    timesAndMore();
    timesToTimes();
    timesOfNone();
    Check.finish();
  }

  private static void due(String regex, String choices, String texts, String heads, String tails) {
    WantTest.due(regex, choices, texts, heads, tails);
  }

  /** < >, for each of these first signs, with the same end. */
  private static String each(String firsts, String end) {
    StringBuilder all = new StringBuilder();
    for (char first : firsts.toCharArray()) {
      all.append('<').append(first).append(end).append('>');
    }
    return all.toString();
  }

  /** < >, for each of these starts, with each of these ends, in the order of the signs. */
  private static String pairs(String starts, String ends) {
    StringBuilder all = new StringBuilder();
    for (char start : starts.toCharArray()) {
      for (char end : ends.toCharArray()) {
        all.append('<').append(start).append(end).append('>');
      }
    }
    return all.toString();
  }

  private static String ordered(String sets) {
    return String.join("", new TreeSet<>(java.util.List.of(sets.split("(?<=>)"))));
  }

  // ---- texts, wants

  /** .. their ORDER is by the first BYTE that differs, a beginning ahead of what goes on. */
  private static void orderOfTexts() {
    due("b|a|ab|aa|a\\n", "<>", "<a><a\n><aa><ab><b>", "<a><b>", "<a><a\n><b>");
    due("~|a|Z|0| |\\n|\\t", "<>", "<\t><\n>< ><0><Z><a><~>", "<\t><\n>< ><0><Z><a><~>", "<\t><\n>< ><0><Z><a><~>");
    due("|a", "<>", "<><a>", "<>", "<>");
    due("abcd|abc|abce|ab", "<>", "<ab><abc><abcd><abce>", "<ab>", "<ab><bc><cd><ce>");
    due("b[ab]|a[ab]", "<>", "<aa><ab><ba><bb>", "<aa><ab><ba><bb>", "<aa><ab><ba><bb>");
  }

  /** ALL is the WANT of one CHOICE without GRAMS: each FILE MEETS it, one without BYTES too. */
  private static void allIsOneChoiceWithoutGrams() {
    for (String regex : new String[] {"", "a", "ab", "a|abc", ".", "a*", "(abc)*", "(abc)?", "ab.cd"}) {
      GramFinder x = new GramFinder();
      Check.add(x, "");
      Check.add(x, "zzzz");
      Check.search(x, regex, false);
      Check.due("choice(NONE) of " + regex, x.choice(GramFinder.NONE), 1);
      Check.due("choice(0) of " + regex, x.choice(0), 0);
      Check.due("choice(1) of " + regex, x.choice(1), GramFinder.NONE);
      Check.due("gram(0, 0) of " + regex, x.gram(0, 0), GramFinder.NONE);
      Check.due("opened(0) of " + regex, x.opened(0), 0);
      Check.due("opened(1) of " + regex, x.opened(1), 1);
    }
  }

  /** .. a set of CHOICES .. of which none is part of another one. */
  private static void noChoiceIsPartOfAnother() {
    due("abc|abcd", "<abc>", "<abc><abcd>", "<ab>", "<bc><cd>");
    due("abcd|abc", "<abc>", "<abc><abcd>", "<ab>", "<bc><cd>");
    due("xabc|abcd|abc|zzz", "<abc><zzz>", "<abc><abcd><xabc><zzz>", "<ab><xa><zz>", "<bc><cd><zz>");
    due("abc|abcd|ab", "<>", "<ab><abc><abcd>", "<ab>", "<ab><bc><cd>");
    due("abcabc|bcabca", "<abc bca cab>", "<abcabc><bcabca>", "<ab><bc>", "<bc><ca>");
  }

  /** A FILE MEETS it, if it HAS all GRAMS of one of its CHOICES. */
  private static void meetsByOneWholeChoice() {
    GramFinder x = new GramFinder();
    String[] files = {"abcd", "abc", "bcd", "wxyz", "wxy xyz", "abc xyz", "bcd abc", "abcxyz"};
    for (String file : files) {
      Check.add(x, file);
    }
    Check.search(x, "abcd|wxyz", false);
    int[] opened = {0, 3, 4, 6, GramFinder.NONE};
    for (int i = 0; i < opened.length; i++) {
      Check.due("opened(" + i + ")", x.opened(i), opened[i]);
    }
  }

  // ---- LEAST, OF, EITHER, BOTH

  /** LEAST: .. (alike ones are one). */
  private static void leastOfAlikeOnes() {
    due("abc.|abc.|abc.", "<abc>", "", "<ab>", "<>");
    due("abcabc.|bcabcab.", "<abc bca cab>", "", "<ab><bc>", "<>");
    due("abc.|abc.d|abc.e|xyz", "<abc><xyz>", "", "<ab><xy>", "<>");
  }

  /** OF some TEXTS: .. if these are more than 24: not at 24. */
  private static void ofTwentyFourTexts() {
    StringBuilder all = new StringBuilder();
    for (char first = 'a'; first <= 'f'; first++) {
      all.append(pairs("" + first, "pqrs").replace(">", "x>"));
    }
    due(".[a-f]([p-s]x)", all.toString(), "", "<>", each("pqrs", "x"));
    due("(.[a-f])([p-s]x.)", all.toString(), "", "<>", "<>");
  }

  /** .. if these are more than 24, their CORE as the only CHOICE: here it is empty. */
  private static void ofMoreThanTwentyFourTexts() {
    due(".[a-e]([p-t]x)", "<>", "", "<>", each("pqrst", "x"));
    due("kkk.[a-e]([p-t]x)", "<kkk>", "", "<kk>", each("pqrst", "x"));
  }

  /** EITHER of two WANTS: LEAST of the CHOICES of both: not at 24. */
  private static void eitherOfTwentyFour() {
    due("[a-h]xx.|[a-h]yy.|[a-h]zz.", ordered(each("abcdefgh", "xx") + each("abcdefgh", "yy") + each("abcdefgh", "zz")),
        "", "<a><b><c><d><e><f><g><h>", "<>");
  }

  /** .. LEAST: those of which no other one is part; if THESE are more than 24. */
  private static void eitherOfTwentyFourThatStay() {
    String all = ordered(each("abcdefgh", "xx") + each("abcdefgh", "yy") + each("abcdefgh", "zz"));
    due("([a-h]xx.|[a-h]yy.)|([a-h]zz.|[a-h]xx.)", all, "", "<a><b><c><d><e><f><g><h>", "<>");
    due("[a-h]xx.|[a-h]yy.|[a-h]zz.|axxb.|qaxx.|hzz", all, "", "<a><b><c><d><e><f><g><h><qa>", "<>");
  }

  /** .. if these are more than 24, their CORE as the only CHOICE. */
  private static void eitherOfMoreThanTwentyFour() {
    due("[a-h]xx.|[a-h]yy.|[a-h]zz.|ixx.", "<>", "", "<a><b><c><d><e><f><g><h><ix>", "<>");
    due("kkk.[a-h]xx.|kkk.[a-h]yy.|kkk.[a-h]zz.|kkk.ixx.", "<kkk>", "", "<kk>", "<>");
    due("kkkk[a-h]xx.|kkkk[a-h]yy.|kkkk[a-h]zz|kkkk", "<kkk>", "", "<kk>", "<>");
    due("kkk.kmm.[a-h]xx.|kkk.kmm.[a-h]yy.|kkk.kmm.[a-h]zz.|kkk.kmm.ixx", "<kkk kmm>", "", "<kk>", "<>");
  }

  /** BOTH: .. if they are at most 24: at 24. */
  private static void bothOfTwentyFour() {
    due("[a-f]xx.[a-d]yy", crossed("abcdef", "xx", "abcd", "yy"), "", each("abcdef", "x"), "<yy>");
    due("[a-d]xx.[a-f]yy", crossed("abcd", "xx", "abcdef", "yy"), "", each("abcd", "x"), "<yy>");
    due("[a-h]xx.[a-c]yy", crossed("abcdefgh", "xx", "abc", "yy"), "", each("abcdefgh", "x"), "<yy>");
  }

  private static String crossed(String firsts, String firstEnd, String seconds, String secondEnd) {
    StringBuilder all = new StringBuilder();
    for (char f : firsts.toCharArray()) {
      for (char s : seconds.toCharArray()) {
        String p = f + firstEnd;
        String q = s + secondEnd;
        all.append('<').append(p.compareTo(q) < 0 ? p + " " + q : q + " " + p).append('>');
      }
    }
    return ordered(all.toString());
  }

  /** .. those of these of which no other one is part, if THEY are at most 24: 25 pairs of which 11 stay. */
  private static void bothOfTwentyFourThatStay() {
    due("[a-e]xx.([ab]xx|[c-e]yy)", ordered("<axx><bxx>" + crossed("cde", "xx", "cde", "yy")), "",
        each("abcde", "x"), "<xx><yy>");
  }

  /** .. else LEAST of each CHOICE of p together with the CORE of q, if p has not more CHOICES than q. */
  private static void bothByCoreOfTheSecond() {
    due("[a-e]xx.[a-e]yy", each("abcde", "xx"), "", each("abcde", "x"), "<yy>");
    due("[a-e]xx.[a-e]yyy", each("abcde", "xx yyy"), "", each("abcde", "x"), "<yy>");
    due("[a-e]xx.[a-f]yyy", each("abcde", "xx yyy"), "", each("abcde", "x"), "<yy>");
    due("[a-d]xxx.[a-g]yyy", each("abcd", "xx xxx yyy"), "", each("abcd", "x"), "<yy>");
  }

  /** .. or, if it has, of each CHOICE of q together with the CORE of p. */
  private static void bothByCoreOfTheFirst() {
    due("[a-f]xx.[a-e]yy", each("abcde", "yy"), "", each("abcdef", "x"), "<yy>");
    due("[a-f]xxx.[a-e]yy", each("abcde", "yy xxx"), "", each("abcdef", "x"), "<yy>");
    due("[a-g]xxx.[a-d]yyy", each("abcd", "yy xxx yyy"), "", each("abcdefg", "x"), "<yy>");
  }

  /** .. LEAST of each: with the CORE a CHOICE may become part of another one. */
  private static void bothByCoreIsLeast() {
    due("(xxa.kkk.|xxa.yyy.|[b-e]xx.)(kkk.[p-u]qq)", "<bxx kkk><cxx kkk><dxx kkk><exx kkk><kkk xxa>", "",
        "<bx><cx><dx><ex><xx>", "<qq>");
    due("(kkk.[p-v]qq.)(xxa.kkk.|xxa.yyy.|[b-e]xx.)", "<bxx kkk><cxx kkk><dxx kkk><exx kkk><kkk xxa>", "", "<kk>",
        "<>");
  }

  /** The CORE of some CHOICES are the GRAMS that all of them have: of these ones, of no earlier ones. */
  private static void coreOfThese() {
    String many = ".[a-h]xx.|kkk.[a-h]yy.|kkk.[a-h]zz.|kkk.ixx.";
    due("(kkk" + many + ")|mmm.", "<kkk><mmm>", "", "<kk><mm>", "<>");
    due("kkk.[a-h]xx.|kkk.zz[a-h]yy.|kkk.[a-h]zz.|kkk.ixx.", "<kkk>", "", "<kk>", "<>");
    due("zzz.axx.|zzz.bcdefg.|zzz.[a-h]vv.|zzz.[a-h]ww.|zzz.[a-h]uu.", "<zzz>", "", "<zz>", "<>");
    due("zzz.bcdefg.|zzz.axx.|zzz.[a-h]vv.|zzz.[a-h]ww.|zzz.[a-h]uu.", "<zzz>", "", "<zz>", "<>");
    GramFinder x = new GramFinder();
    String[] regexes = {"kkk" + many, "[a-h]xx.|[a-h]yy.|[a-h]zz.|ixx.", "[a-e]xx.[a-e]yyy", "[a-e]xx.[a-e]yy",
        "kkk" + many};
    String[] choices = {"<kkk>", "<>", each("abcde", "xx yyy"), each("abcde", "xx"), "<kkk>"};
    for (int i = 0; i < regexes.length; i++) {
      Check.search(x, regexes[i], false);
      Check.dueText("choices of " + regexes[i], Check.choicesOf(x), choices[i]);
    }
  }

  // ---- HEADS, TAILS

  /** the first two BYTES of each (all, if it has fewer). */
  private static void headsOfFewerBytes() {
    due("abc|d|ef", "<>", "<abc><d><ef>", "<ab><d><ef>", "<bc><d><ef>");
    due("a|", "<>", "<><a>", "<>", "<>");
    due("", "<>", "<>", "<>", "<>");
  }

  /** those go of which another one is a beginning (alike ones are one). */
  private static void headsOfBeginnings() {
    due("a|ab|abc|b", "<>", "<a><ab><abc><b>", "<a><b>", "<a><b><bc>");
    due("abc|abd|aba", "<aba><abc><abd>", "<aba><abc><abd>", "<ab>", "<ba><bc><bd>");
    due("ab.|a.|b.", "<>", "", "<a><b>", "<>");
    due("ab.|a.|.", "<>", "", "<>", "<>");
    due("ba.|a.|ca.", "<>", "", "<a><ba><ca>", "<>");
  }

  /** if more than 12 stay: not at 12, and not if of more than 12 as many stay. */
  private static void headsOfTwelve() {
    due("[a-f]x.|[a-f]y.", "<>", "", ordered(pairs("abcdef", "xy")), "<>");
    due("[a-f]x.|[a-f]y.|ax.|fy.", "<>", "", ordered(pairs("abcdef", "xy")), "<>");
    due("[a-f]x.|([a-f]y.|g.|gz.)", "<>", "", "<a><b><c><d><e><f><g>", "<>");
    due("[a-f]x.|([a-e]y.|g.|gz.)", "<>", "", ordered(pairs("abcdef", "x") + pairs("abcde", "y") + "<g>"), "<>");
  }

  /** .. the first BYTE of each instead (alike ones are one). */
  private static void headsByTheFirstByte() {
    due("[a-f]x.|[a-f]y.|az.", "<>", "", "<a><b><c><d><e><f>", "<>");
    due("[a-h]x.|[d-h]y.", "<>", "", "<a><b><c><d><e><f><g><h>", "<>");
    due("[a-f]x.|[a-f]y.|z.", "<>", "", "<a><b><c><d><e><f><z>", "<>");
  }

  /** if these are more than 12: not at 12. */
  private static void headsOfTwelveFirstBytes() {
    due("[a-h]x.|[h-l]y.", "<>", "", "<a><b><c><d><e><f><g><h><i><j><k><l>", "<>");
    due("[a-f].|[g-l].", "<>", "", "<a><b><c><d><e><f><g><h><i><j><k><l>", "<>");
  }

  /** .. the TEXT without BYTES alone. */
  private static void headsOfMoreFirstBytes() {
    due("[a-h]x.|[i-m]y.", "<>", "", "<>", "<>");
    due("[a-g].|[h-m].", "<>", "", "<>", "<>");
    due("([a-g]|[h-m])xyz", "<xyz>", "", "<>", "<yz>");
  }

  /** TAILS: likewise the last two BYTES. */
  private static void tailsOfFewerBytes() {
    due("abc|d|ef", "<>", "<abc><d><ef>", "<ab><d><ef>", "<bc><d><ef>");
    due(".abc|.d|.ef", "<>", "", "<>", "<bc><d><ef>");
    due(".(|a)", "<>", "", "<>", "<>");
  }

  /** .. those of which another one is an end. */
  private static void tailsOfEnds() {
    due("a|ba|cba|b", "<>", "<a><b><ba><cba>", "<a><b><cb>", "<a><b>");
    due(".(a|ba)", "<>", "", "<>", "<a>");
    due(".(ab|a)", "<>", "", "<>", "<a><ab>");
    due(".ab|.b|.c", "<>", "", "<>", "<b><c>");
    due(".ab|.b|.", "<>", "", "<>", "<>");
    due(".ab|.a|.ac", "<>", "", "<>", "<a><ab><ac>");
  }

  /** .. at 12 they stay. */
  private static void tailsOfTwelve() {
    due(".x[a-f]|.y[a-f]", "<>", "", "<>", ordered(pairs("x", "abcdef") + pairs("y", "abcdef")));
    due(".x[a-f]|.y[a-f]|.xa|.yf", "<>", "", "<>", ordered(pairs("x", "abcdef") + pairs("y", "abcdef")));
  }

  /** .. the last BYTE. */
  private static void tailsByTheLastByte() {
    due(".x[a-f]|.y[a-f]|.za", "<>", "", "<>", "<a><b><c><d><e><f>");
    due(".x[a-h]|.y[d-h]", "<>", "", "<>", "<a><b><c><d><e><f><g><h>");
    due(".x[a-f]|.y[a-f]|.z", "<>", "", "<>", "<a><b><c><d><e><f><z>");
  }

  /** .. at 12 last BYTES. */
  private static void tailsOfTwelveLastBytes() {
    due(".x[a-h]|.y[h-l]", "<>", "", "<>", "<a><b><c><d><e><f><g><h><i><j><k><l>");
    due(".[a-f]|.[g-l]", "<>", "", "<>", "<a><b><c><d><e><f><g><h><i><j><k><l>");
  }

  /** .. if these are more than 12, the TEXT without BYTES alone. */
  private static void tailsOfMoreLastBytes() {
    due(".x[a-h]|.y[i-m]", "<>", "", "<>", "<>");
    due(".[a-g]|.[h-m]", "<>", "", "<>", "<>");
    due("xyz([a-g]|[h-m])", "<xyz>", "", "<xy>", "<>");
  }

  // ---- the parts

  /** What stands for one BYTE .. : EXACT .., if they are at most 8, else SHUT. */
  private static void oneByteOfEight() {
    due("[a-h]", "<>", "<a><b><c><d><e><f><g><h>", "<a><b><c><d><e><f><g><h>", "<a><b><c><d><e><f><g><h>");
    due("[a-i]", "<>", "", "<>", "<>");
    due("[ace-hxz]", "<>", "<a><c><e><f><g><h><x><z>", "<a><c><e><f><g><h><x><z>", "<a><c><e><f><g><h><x><z>");
    due("[aabbaa-c]", "<>", "<a><b><c>", "<a><b><c>", "<a><b><c>");
    due("\\s", "<>", "<\t><\n>< >", "<\t><\n>< >", "<\t><\n>< >");
    due("[\\sa-e]", "<>", "<\t><\n>< ><a><b><c><d><e>", "<\t><\n>< ><a><b><c><d><e>", "<\t><\n>< ><a><b><c><d><e>");
    due("[\\sa-f]", "<>", "", "<>", "<>");
    for (String shut : new String[] {"\\d", "\\w", ".", "[^a]", "[\\d]", "[^ -~]"}) {
      due(shut, "<>", "", "<>", "<>");
    }
    WantTest.due("[a-d]", true, "<>", "<A><B><C><D><a><b><c><d>", "<A><B><C><D><a><b><c><d>",
        "<A><B><C><D><a><b><c><d>");
    WantTest.due("[a-e]", true, "<>", "", "<>", "<>");
    WantTest.due("[a-dA-D]", true, "<>", "<A><B><C><D><a><b><c><d>", "<A><B><C><D><a><b><c><d>",
        "<A><B><C><D><a><b><c><d>");
    WantTest.due("[a-c01]", true, "<>", "<0><1><A><B><C><a><b><c>", "<0><1><A><B><C><a><b><c>",
        "<0><1><A><B><C><a><b><c>");
    WantTest.due("[a-c012]", true, "<>", "", "<>", "<>");
    WantTest.due("a", true, "<>", "<A><a>", "<A><a>", "<A><a>");
  }

  /** ^, $, \b, a CAT of none: EXACT with the TEXT without BYTES. */
  private static void noByteParts() {
    for (String regex : new String[] {"^", "$", "\\b", "", "()", "^$\\b", "^|$", "|"}) {
      due(regex, "<>", "<>", "<>", "<>");
    }
    due("a^b$c\\bd", "<abc bcd>", "<abcd>", "<ab>", "<cd>");
  }

  /** f g: .. EXACT with these, if they are at most 8. */
  private static void besideUpToEightTexts() {
    due("[ab][c-f]", "<>", ordered(pairs("ab", "cdef")), ordered(pairs("ab", "cdef")), ordered(pairs("ab", "cdef")));
    due("[a-c][d-f]", "<>", "", ordered(pairs("abc", "def")), ordered(pairs("abc", "def")));
    due("[a-h]x", "<>", each("abcdefgh", "x"), each("abcdefgh", "x"), each("abcdefgh", "x"));
    due("[a-h][xy]", "<>", "", "<a><b><c><d><e><f><g><h>", "<x><y>");
  }

  /** .. all t u: alike ones are one. */
  private static void besideAlikeTexts() {
    due("(|a|aa)(|a|aa)(|a|aa)", "<>", "<><a><aa><aaa><aaaa><aaaaa><aaaaaa>", "<>", "<>");
    due("(|a|aa)(|a|aa)(|a|aa)(|a)", "<>", "<><a><aa><aaa><aaaa><aaaaa><aaaaaa><aaaaaaa>", "<>", "<>");
    due("(|a|aa)(|a|aa)(|a|aa)(|a|aa)", "<>", "", "<>", "<>");
    due("(a|ab)(bc|c)", "<>", "<abbc><abc><ac>", "<ab><ac>", "<ac><bc>");
  }

  /** .. and none has more than 60 BYTES. */
  private static void besideUpToSixtyBytes() {
    String most = "a".repeat(60);
    due("a{20}a{20}a{20}", "<aaa>", "<" + most + ">", "<aa>", "<aa>");
    due("a{20}a{20}a{20}a", "<aaa>", "", "<aa>", "<aa>");
    due("(a{20}){3}", "<aaa>", "<" + most + ">", "<aa>", "<aa>");
    due("(a{20}){3}()$", "<aaa>", "<" + most + ">", "<aa>", "<aa>");
    due("(a{20}){3}b?", "<aaa>", "", "<aa>", "<aa><ab>");
    due("(a{20}){2}a{19}[bc]", "<aaa aab><aaa aac>", "<" + "a".repeat(59) + "b><" + "a".repeat(59) + "c>", "<aa>",
        "<ab><ac>");
    due("(a{20}a{20}a{19}|b)(c|dd)", "<>", "", "<aa><bc><bd>", "<ac><bc><dd>");
    due("(a{20}a{20}a{18}|b)(c|dd)", "<>", "<" + "a".repeat(58) + "c><" + "a".repeat(58) + "dd><bc><bdd>",
        "<aa><bc><bd>", "<ac><bc><dd>");
  }

  /** Else OPEN: what is OPEN stays so. */
  private static void besideOpen() {
    due("a.", "<>", "", "<a>", "<>");
    due(".a", "<>", "", "<>", "<a>");
    due(".()", "<>", "", "<>", "<>");
    due("().", "<>", "", "<>", "<>");
    due("(abc)+", "<abc>", "", "<ab>", "<bc>");
    due("^(abc)+$", "<abc>", "", "<ab>", "<bc>");
  }

  /** HEADS: if f is EXACT, the HEADS of all t u, t of f's TEXTS, u of the HEADS of g OPENED; else f's. */
  private static void headsThroughShortTexts() {
    due("a(bc)+", "<abc>", "", "<ab>", "<bc>");
    due("(|a)(bc)+", "<>", "", "<ab><bc>", "<bc>");
    due("a(b.|c.)", "<>", "", "<ab><ac>", "<>");
    due("a.", "<>", "", "<a>", "<>");
    due("(a|ab)(c.)", "<>", "", "<ab><ac>", "<>");
    due("ab(c.)", "<abc>", "", "<ab>", "<>");
    due("(a+)(b.)", "<>", "", "<a>", "<>");
    due("(a|).", "<>", "", "<>", "<>");
    due("[a-c]([d-h]x.)", ordered(pairs("abc", "defgh").replace(">", "x>")), "", "<a><b><c>", "<>");
    due("[ab]([c-h].)", "<>", "", ordered(pairs("ab", "cdefgh")), "<>");
  }

  /** TAILS: if g is EXACT, the TAILS of all t u, t of the TAILS of f OPENED, u of g's TEXTS; else g's. */
  private static void tailsThroughShortTexts() {
    due("(ab)+c", "<abc>", "", "<ab>", "<bc>");
    due("(ab)+(|c)", "<>", "", "<ab>", "<ab><bc>");
    due("(.b|.c)a", "<>", "", "<>", "<ba><ca>");
    due(".a", "<>", "", "<>", "<a>");
    due("(.c)(a|ba)", "<>", "", "<>", "<ba><ca>");
    due("(.c)ab", "<cab>", "", "<>", "<ab>");
    due("(.b)(a+)", "<>", "", "<>", "<a>");
    due(".(a|)", "<>", "", "<>", "<>");
    due("(.[c-h])[ab]", "<>", "", "<>", ordered(pairs("cdefgh", "ab")));
    due("(.[c-i])[ab]", "<>", "", "<>", "<a><b>");
  }

  /** WANT: .. and OF all t u, t of the TAILS of f OPENED, u of the HEADS of g OPENED. */
  private static void gramsOverTheJoint() {
    due("(.ab)(cd.)", "<abc bcd>", "", "<>", "<>");
    due("(.b)(cd.)", "<bcd>", "", "<>", "<>");
    due("(.ab)(c.)", "<abc>", "", "<>", "<>");
    due("(.b)(c.)", "<>", "", "<>", "<>");
    due("(.ab)(.cd)", "<>", "", "<>", "<cd>");
    due("(.ab)(..)", "<>", "", "<>", "<>");
    due("(.[ab]c)(d[ef].)", "<acd cde><acd cdf><bcd cde><bcd cdf>", "", "<>", "<>");
    due("(xab.|xcd.)(.yab|.ycd)", "<xab yab><xab ycd><xcd yab><xcd ycd>", "", "<xa><xc>", "<ab><cd>");
    due("(ab)+(cd)+", "<abc bcd>", "", "<ab>", "<cd>");
    due("(.aa)(aa.)", "<aaa>", "", "<>", "<>");
  }

  /** f | g: if both are EXACT, and the TEXTS of both together are at most 8: EXACT with these. */
  private static void eitherUpToEightTexts() {
    due("[a-g]|h", "<>", "<a><b><c><d><e><f><g><h>", "<a><b><c><d><e><f><g><h>", "<a><b><c><d><e><f><g><h>");
    due("[a-h]|i", "<>", "", "<a><b><c><d><e><f><g><h><i>", "<a><b><c><d><e><f><g><h><i>");
    due("[a-h]|h|[a-c]", "<>", "<a><b><c><d><e><f><g><h>", "<a><b><c><d><e><f><g><h>", "<a><b><c><d><e><f><g><h>");
    due("a|b|c|d|e|f|g|h", "<>", "<a><b><c><d><e><f><g><h>", "<a><b><c><d><e><f><g><h>", "<a><b><c><d><e><f><g><h>");
    due("a|b|c|d|e|f|g|h|", "<>", "", "<>", "<>");
    due("|a|b|c|d|e|f|g", "<>", "<><a><b><c><d><e><f><g>", "<>", "<>");
  }

  /** .. else OPEN: both OPENED. */
  private static void eitherOpen() {
    due("abc|(abd)+", "<abc><abd>", "", "<ab>", "<bc><bd>");
    due("(abc)+|abd", "<abc><abd>", "", "<ab>", "<bc><bd>");
    due("abc|.", "<>", "", "<>", "<>");
    due(".|abc", "<>", "", "<>", "<>");
    due("[a-h]xy|ixy", "<axy><bxy><cxy><dxy><exy><fxy><gxy><hxy><ixy>", "", each("abcdefghi", "x"), "<xy>");
    due("[a-h]|i|j", "<>", "", "<a><b><c><d><e><f><g><h><i><j>", "<a><b><c><d><e><f><g><h><i><j>");
    due("[a-h]|[i-l]|a", "<>", "", "<a><b><c><d><e><f><g><h><i><j><k><l>", "<a><b><c><d><e><f><g><h><i><j><k><l>");
    due("[a-h]|[i-l]|m|a", "<>", "", "<>", "<>");
  }

  /** e*: SHUT. e{n,}: n 0: as e*. */
  private static void anyTimesIsShut() {
    for (String regex : new String[] {"a*", "(abc)*", "()*", "a{0,}", "(abc){0,}", "(abc){00,}", "(.abc.)*"}) {
      due(regex, "<>", "", "<>", "<>");
    }
    due("abc(abc)*abc", "<abc>", "", "<ab>", "<bc>");
    due("ab(c)*de", "<>", "", "<ab>", "<de>");
  }

  /** e+: e OPENED. e{n,}: .. e n - 1 times, then e+. */
  private static void onceOrMoreIsOpened() {
    due("a+", "<>", "", "<a>", "<a>");
    due("(abc|xyz)+", "<abc><xyz>", "", "<ab><xy>", "<bc><yz>");
    due("()+", "<>", "", "<>", "<>");
    due(".+", "<>", "", "<>", "<>");
    due("(abc.)+", "<abc>", "", "<ab>", "<>");
    due("(abc){1,}", "<abc>", "", "<ab>", "<bc>");
    due("(abc){01,}", "<abc>", "", "<ab>", "<bc>");
  }

  /** e?: e | the CAT of none. */
  private static void onceOrNot() {
    due("[a-g]?", "<>", "<><a><b><c><d><e><f><g>", "<>", "<>");
    due("[a-h]?", "<>", "", "<>", "<>");
    due("(abc)?", "<>", "<><abc>", "<>", "<>");
    due("()?", "<>", "<>", "<>", "<>");
    due(".?", "<>", "", "<>", "<>");
    due("(abc.)?", "<>", "", "<>", "<>");
    due("xabc?y", "<abc bcy xab><aby xab>", "<xabcy><xaby>", "<xa>", "<by><cy>");
  }

  /** e{n}: the CAT of none, behind it e n times. */
  private static void timesOfExact() {
    due("(abc){1}", "<abc>", "<abc>", "<ab>", "<bc>");
    due("(abc){2}", "<abc bca cab>", "<abcabc>", "<ab>", "<bc>");
    due("(abc){20}", "<abc bca cab>", "<" + "abc".repeat(20) + ">", "<ab>", "<bc>");
    due("(abcd){15}", "<abc bcd cda dab>", "<" + "abcd".repeat(15) + ">", "<ab>", "<cd>");
    due("(abcd){16}", "<abc bcd cda dab>", "", "<ab>", "<cd>");
    due("[ab]{3}", "<aaa><aab><aba><abb><baa><bab><bba><bbb>", "<aaa><aab><aba><abb><baa><bab><bba><bbb>",
        "<aa><ab><ba><bb>", "<aa><ab><ba><bb>");
    due("(a.){2}", "<>", "", "<a>", "<>");
    due("(abc.){20}", "<abc>", "", "<ab>", "<>");
    due("(a+bc){2}", "<abc bca>", "", "<a>", "<bc>");
  }

  /** e{n,}: .. else the CAT of none, behind it e n - 1 times, then e+. */
  private static void timesAndMore() {
    due("(ab){1,}", "<>", "", "<ab>", "<ab>");
    due("(ab){2,}", "<aba bab>", "", "<ab>", "<ab>");
    due("a{2,}", "<>", "", "<aa>", "<a>");
    due("a{3,}", "<aaa>", "", "<aa>", "<a>");
    due("(a|bcd){2,}", "<>", "", "<aa><ab><bc>", "<a><cd>");
    due("(abcdef){11,}", "<abc bcd cde def efa fab>", "", "<ab>", "<ef>");
  }

  /** e{n,m}: the CAT of none, behind it e n times, then e? m - n times. */
  private static void timesToTimes() {
    due("(abc){1,1}", "<abc>", "<abc>", "<ab>", "<bc>");
    due("(abc){0,1}", "<>", "<><abc>", "<>", "<>");
    due("(abc){1,2}", "<abc>", "<abc><abcabc>", "<ab>", "<bc>");
    due("a{0,7}", "<>", "<><a><aa><aaa><aaaa><aaaaa><aaaaaa><aaaaaaa>", "<>", "<>");
    due("a{0,8}", "<>", "", "<>", "<>");
    due("a{13,20}", "<aaa>", textsOf(13, 20), "<aa>", "<aa>");
    due("a{12,20}", "<aaa>", "", "<aa>", "<aa>");
    due("(ab.){0,1}", "<>", "", "<>", "<>");
    due("(abc.){1,2}", "<abc>", "", "<ab>", "<>");
    due("x(ab.){1,2}", "<xab>", "", "<xa>", "<>");
  }

  private static String textsOf(int low, int high) {
    StringBuilder all = new StringBuilder();
    for (int n = low; n <= high; n++) {
      all.append('<').append("a".repeat(n)).append('>');
    }
    return all.toString();
  }

  /** e{0}, e{0,0}: the CAT of none, whatever e is. */
  private static void timesOfNone() {
    for (String regex : new String[] {"(abc){0}", "(abc){0,0}", ".{0}", "[a-z]{0}", "(a*){0}", "((a{20}){20}){0}"}) {
      due(regex, "<>", "<>", "<>", "<>");
      due("ab" + regex + "c", "<abc>", "<abc>", "<ab>", "<bc>");
    }
  }
}
