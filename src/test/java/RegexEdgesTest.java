/** The edges of term 2 and of what promises 10, 11 and 18 say of it: each method holds the sentence above it. */
public final class RegexEdgesTest {
  private static final int NONE = GramFinder.NONE;
  private static final int FORM = 1;
  private static final int ORDER = 2;
  private static final int MUCH = 3;
  private static final String TEN_OPEN = "(".repeat(10);
  private static final String TEN_CLOSED = ")".repeat(10);
  private static final String SIZE_180 = "(a{20}){9}";

  private RegexEdgesTest() {}

  public static void main(String[] args) {
    emptyRegex();
    bytesOfTheTapeAlone();
    emptyCats();
    emptyGroup();
    atMostOneCount();
    countNeedsAnAtom();
    oneOrTwoDigits();
    plainSigns();
    escapedSigns();
    atLeastOnePiece();
    hatBehindBracket();
    rangeNeedsBothEnds();
    noRangeOfNamedSets();
    oneOfAPiece();
    eightyBytes();
    moreThanEightyAheadOfAll();
    formAtTheFirstByte();
    formAtTheLength();
    orderOfOnes();
    orderOfNumbers();
    orderAtTheFirstByte();
    numberAboveTwenty();
    ofThreeDigitsTheFirstTwo();
    tenOpenAtOnce();
    tenOpenWithAllElse();
    parensThatOpenNothing();
    firstByItsPlace();
    ofOnePlaceTheLeast();
    sizeOfAtoms();
    sizeAboveTwoHundred();
    sizeAboveTwoHundredAtTheLength();
    sizeIfNoOtherFault();
    sizeWithoutBound();
    sizeOfTheLatestSearch();
    faultOfOthers();
    faultAheadOfAny();
    faultOfTheLatest();
    Check.finish();
  }

  private static void dueFault(String regex, int kind, int place) {
    Check.dueFault(new GramFinder(), regex, kind, place);
    Check.due(regex + " with fold", Check.search(new GramFinder(), regex, true), NONE);
  }

  private static void dueSize(String regex, int size) {
    Check.dueNoFault(new GramFinder(), regex, size);
  }

  // ---- the grammar

  /** REGEX: ALT, of one CAT, of no REP. */
  private static void emptyRegex() {
    dueSize("", 0);
    Check.due("search with a tape that was never fed", new GramFinder().search(true), 0);
  }

  /** .. with the TAPE's BYTES as REGEX: its first n BYTES alone, whatever stood behind them ahead of end(n). */
  private static void bytesOfTheTapeAlone() {
    dueCut("a*", 1, 0, 1);
    dueCut("a{2}", 1, 0, 1);
    dueCut("ab|c", 2, 0, 2);
    dueCut("a)", 1, 0, 1);
    dueCut("a\\", 1, 0, 1);
    dueCut("a" + "(".repeat(11), 1, 0, 1);
    dueCut("a".repeat(81), 80, 0, 80);
    dueCut("(a)", 2, FORM, 2);
    dueCut("[ab]", 2, FORM, 2);
    dueCut("[ab]", 1, FORM, 1);
    dueCut("[^a]", 2, FORM, 2);
    dueCut("[a-b]", 3, FORM, 3);
    dueCut("[\\d]", 2, FORM, 2);
    dueCut("[\\d]", 3, FORM, 3);
    dueCut("[a-\\n]", 4, FORM, 4);
    dueCut("\\d", 1, FORM, 1);
    dueCut("a{2}", 2, FORM, 2);
    dueCut("a{2}", 3, FORM, 3);
    dueCut("a{2,3}", 4, FORM, 4);
    dueCut("a{2,3}", 5, FORM, 5);
    dueCut("a{12,15}", 6, ORDER, 5);
    dueCut("a{20}", 3, FORM, 3);
  }

  /** The first bytes of a tape: their fault and its place, or their size. */
  private static void dueCut(String tape, int n, int fault, int placeOrSize) {
    GramFinder x = new GramFinder();
    Check.write(x, tape);
    x.end(n);
    String call = "search of the first " + n + " bytes of " + tape;
    Check.due(call, x.search(false), fault == 0 ? 0 : NONE);
    Check.due("fault(0) behind " + call, x.fault(0), fault);
    Check.due("fault(1) behind " + call, x.fault(1), fault == 0 ? NONE : placeOrSize);
    Check.due("count(9) behind " + call, x.count(9), fault == 0 ? placeOrSize : 0);
  }

  /** ALT: CAT { '|' CAT }: each of them may be of none. */
  private static void emptyCats() {
    dueSize("|", 1);
    dueSize("||", 2);
    dueSize("a||", 3);
    dueSize("||a", 3);
    dueSize("(|)", 1);
    dueSize("(|a|)|", 4);
    dueSize("|".repeat(80), 80);
  }

  /** '(' ALT ')', of nothing. */
  private static void emptyGroup() {
    dueSize("()", 0);
    dueSize("()()", 0);
    dueSize("(())", 0);
    dueSize("()|()", 1);
    dueSize("()+", 1);
    dueSize("(){20}", 0);
    dueSize("(){0,20}", 20);
  }

  /** REP: ATOM [ COUNT ]: once or not at all. */
  private static void atMostOneCount() {
    String[] counts = {"*", "+", "?", "{2}", "{2,}", "{2,3}"};
    for (String first : counts) {
      for (String second : counts) {
        dueFault("a" + first + second, FORM, 1 + first.length());
        String grouped = "(a" + first + ")" + second;
        Check.due("search(" + grouped + ")", Check.search(new GramFinder(), grouped, false) >= 0, true);
      }
    }
  }

  /** A COUNT stands behind an ATOM: at no front of a CAT. */
  private static void countNeedsAnAtom() {
    for (String count : new String[] {"*", "+", "?", "{2}"}) {
      dueFault(count, FORM, 0);
      dueFault("a|" + count, FORM, 2);
      dueFault("(" + count + ")", FORM, 1);
      dueFault("a(b|" + count + ")", FORM, 4);
      dueFault("|" + count, FORM, 1);
    }
    dueSize("^*", 2);
    dueSize("$+", 2);
    dueSize("\\b?", 2);
    dueSize(".{2}", 2);
    dueSize("[*]*", 2);
    dueSize("\\**", 2);
    dueSize("()*", 1);
  }

  /** N: one or two digits. */
  private static void oneOrTwoDigits() {
    dueSize("a{0}", 0);
    dueSize("a{9}", 9);
    dueSize("a{00}", 0);
    dueSize("a{09}", 9);
    dueSize("a{10}", 10);
    dueSize("a{01,02}", 3);
    dueSize("a{01,}", 3);
    dueFault("a{}", FORM, 2);
    dueFault("a{,}", FORM, 2);
    dueFault("a{,1}", FORM, 2);
    dueFault("a{001}", FORM, 4);
    dueFault("a{100}", FORM, 4);
    dueFault("a{0,001}", FORM, 6);
    dueFault("a{-1}", FORM, 2);
    dueFault("a{ 1}", FORM, 2);
    dueFault("a{1 }", FORM, 3);
    dueFault("a{1,,2}", FORM, 4);
    dueFault("a{1,2,}", FORM, 5);
    dueFault("a{/}", FORM, 2);
    dueFault("a{:}", FORM, 2);
    dueFault("a{1/}", FORM, 3);
    dueFault("a{1:}", FORM, 3);
  }

  /** a PLAIN: one of 32 .. 126 that is none of \ | * + ? { } ( ) [ ] . ^ $. */
  private static void plainSigns() {
    dueSize(" ", 1);
    dueSize("~", 1);
    dueFault("\u001f", FORM, 0);
    dueFault("\u007f", FORM, 0);
    dueFault("\u0000", FORM, 0);
    dueFault("\u0080", FORM, 0);
    dueFault("\u00ff", FORM, 0);
    dueFault("a\n", FORM, 1);
    dueFault("a\t", FORM, 1);
    for (String sign : new String[] {"*", "+", "?", "{", "}", ")", "]"}) {
      dueFault(sign, FORM, 0);
    }
    dueSize("-,:/@`_!\"#%&';<=>", 17);
  }

  /** '\' and one of n t d w s b ; '\' and one of 32 .. 126 that is no letter and no digit. */
  private static void escapedSigns() {
    dueSize("\\n\\t\\d\\w\\s\\b", 6);
    for (int c = 0; c < 256; c++) {
      boolean good = c >= 32 && c <= 126 && !Character.isLetterOrDigit(c) || "ntdwsb".indexOf(c) >= 0;
      if (good) {
        dueSize("a\\" + (char) c, 2);
      } else {
        dueFault("a\\" + (char) c, FORM, 2);
      }
    }
  }

  /** '[' [ '^' ] PIECE { PIECE } ']'. */
  private static void atLeastOnePiece() {
    dueFault("[]", FORM, 1);
    dueFault("[]]", FORM, 1);
    dueFault("[^]", FORM, 2);
    dueFault("[^]]", FORM, 2);
    dueSize("[\\]]", 1);
    dueSize("[^\\]]", 1);
    dueSize("[a][b]", 2);
    dueSize("[" + "ab".repeat(39) + "]", 1);
  }

  /** (A ^ right behind the [ is always that of '[' '^'.) */
  private static void hatBehindBracket() {
    dueFault("[^]", FORM, 2);
    dueFault("[^", FORM, 2);
    dueFault("[^-a]", FORM, 2);
    dueSize("[^^]", 1);
    dueSize("[^^-a]", 1);
    dueSize("[a^]", 1);
    dueSize("[\\^]", 1);
    dueSize("[\\^-a]", 1);
    MatchTest.dueBytes("[^^]", false, 255, "a", "^");
    MatchTest.dueBytes("[^a]", false, 255, "^b", "a");
    MatchTest.dueBytes("[a^]", false, 2, "a^", "b");
    MatchTest.dueBytes("[\\^a]", false, 2, "a^", "b");
    MatchTest.dueBytes("[^^^]", false, 255, "a", "^");
    MatchTest.dueBytes("[\\^-a]", false, 4, "^_`a", "]b");
  }

  /** PIECE: ONE [ '-' ONE ]. */
  private static void rangeNeedsBothEnds() {
    dueFault("[-]", FORM, 1);
    dueFault("[-a]", FORM, 1);
    dueFault("[a-]", FORM, 3);
    dueFault("[a-", FORM, 3);
    dueFault("[a--]", FORM, 3);
    dueFault("[a-b-c]", FORM, 4);
    dueFault("[a-b-]", FORM, 4);
    dueFault("[ab-]", FORM, 4);
    dueSize("[a-bc-d]", 1);
    dueSize("[\\--\\-]", 1);
    dueSize("[a\\-]", 1);
    dueSize("[+-\\-]", 1);
  }

  /** .. or '\' and one of d w s: no end of a range. */
  private static void noRangeOfNamedSets() {
    for (String name : new String[] {"d", "w", "s"}) {
      dueSize("[\\" + name + "]", 1);
      dueSize("[^\\" + name + "a-c]", 1);
      dueFault("[\\" + name + "-a]", FORM, 3);
      dueFault("[\\" + name + "-]", FORM, 3);
      dueFault("[ -\\" + name + "]", FORM, 4);
    }
    dueFault("[\\b]", FORM, 2);
    dueFault("[a-\\b]", FORM, 4);
    dueSize("[\\t-\\n]", 1);
  }

  /** ONE: one of 32 .. 126 that is none of \ ] - ; or '\' and n or t ; or '\' and ... */
  private static void oneOfAPiece() {
    for (int c = 0; c < 256; c++) {
      boolean one = c >= 32 && c <= 126 && "\\]-".indexOf(c) < 0;
      boolean escaped = c >= 32 && c <= 126 && !Character.isLetterOrDigit(c) || c == 'n' || c == 't';
      boolean named = c == 'd' || c == 'w' || c == 's';
      dueOne("[a" + (char) c + "]", one, c == '\\' ? 4 : c == '-' ? 3 : 2, c == ']');
      dueOne("[\\" + (char) c + "]", escaped || named, 2, false);
      dueOne("[\\t-" + (char) c + "]", one, c == '\\' ? 6 : 4, false);
      dueOne("[\\t-\\" + (char) c + "]", escaped, 5, false);
    }
  }

  private static void dueOne(String regex, boolean good, int place, boolean closesEarly) {
    if (good) {
      dueSize(regex, 1);
    } else {
      dueFault(regex, FORM, closesEarly ? place + 1 : place);
    }
  }

  // ---- the faults

  /** 3 MUCH at 80, if the REGEX has more than 80 BYTES: not at 80. */
  private static void eightyBytes() {
    dueSize("a".repeat(80), 80);
    dueSize("()".repeat(40), 0);
    dueSize("[" + "a".repeat(78) + "]", 1);
    dueFault("a".repeat(81), MUCH, 80);
    dueFault("()".repeat(40) + "a", MUCH, 80);
    dueFault("[" + "a".repeat(79) + "]", MUCH, 80);
    dueFault("a".repeat(1000), MUCH, 80);
  }

  /** .. ahead of all else. */
  private static void moreThanEightyAheadOfAll() {
    String more = "a".repeat(80);
    for (String faulty : new String[] {"*", "\u00ff", ")", "[b-a]", "a{2,1}", "a{21}", "(a{20}){20}", TEN_OPEN + "("}) {
      dueFault(faulty + more, MUCH, 80);
    }
    dueFault("a".repeat(80) + "*".repeat(920), MUCH, 80);
    dueFault("(".repeat(81), MUCH, 80);
    dueFault("a".repeat(79) + "**", MUCH, 80);
    dueFault("a".repeat(78) + "**", FORM, 79);
  }

  /** 1 FORM: the first BYTE with which no REGEX goes on. */
  private static void formAtTheFirstByte() {
    dueFault(")", FORM, 0);
    dueFault("a)", FORM, 1);
    dueFault("(a))", FORM, 3);
    dueFault("(a)b)*", FORM, 4);
    dueFault("a]", FORM, 1);
    dueFault("a}", FORM, 1);
    dueFault("(a*+b", FORM, 3);
    dueFault("((\u00ff", FORM, 2);
    dueFault("[a\u00ff]", FORM, 2);
    dueFault("[a\n]", FORM, 2);
    dueFault("a\\\u00ff", FORM, 2);
    dueFault("a{2\u00ff", FORM, 3);
    dueFault("a".repeat(79) + ")", FORM, 79);
  }

  /** .. or the length, if it can't end there. */
  private static void formAtTheLength() {
    String[] open = {"(", "(a", "(a|", "((a)", "a(b*", "\\", "a\\", "[", "[^", "[a", "[a-", "[a-b", "[\\", "[a-\\", "[\\d",
        "a{", "a{1", "a{12", "a{1,", "a{1,2", "a{1,12", "[(", "(\\)", "a".repeat(79) + "(", TEN_OPEN};
    for (String regex : open) {
      dueFault(regex, FORM, regex.length());
    }
  }

  /** 2 ORDER: the ONE behind a - is less than that ahead of it: not if it is the same one. */
  private static void orderOfOnes() {
    dueSize("[a-a]", 1);
    dueSize("[a-b]", 1);
    dueFault("[b-a]", ORDER, 3);
    dueFault("[^b-a]", ORDER, 4);
    dueFault("[a-Z]", ORDER, 3);
    dueSize("[ -~]", 1);
    dueFault("[~- ]", ORDER, 3);
    dueFault("[xa-bz-y]", ORDER, 7);
    dueSize("[\\n-\\n]", 1);
    dueSize("[\\t-\\n]", 1);
    dueFault("[\\n-\\t]", ORDER, 4);
    dueSize("[\\n- ]", 1);
    dueFault("[ -\\n]", ORDER, 3);
    dueFault("[a-\\n]", ORDER, 3);
    dueSize("[\\n-a]", 1);
    dueFault("[a-b]c[d-c]", ORDER, 9);
  }

  /** .. the second N of a COUNT is less than the first one: not if it is the same one. */
  private static void orderOfNumbers() {
    dueSize("a{0,0}", 0);
    dueSize("a{3,3}", 3);
    dueSize("a{3,03}", 3);
    dueSize("a{03,3}", 3);
    dueSize("a{20,20}", 20);
    dueSize("a{9,10}", 11);
    dueFault("a{1,0}", ORDER, 4);
    dueFault("a{3,2}", ORDER, 4);
    dueFault("a{3,02}", ORDER, 4);
    dueFault("a{03,2}", ORDER, 5);
    dueFault("a{10,9}", ORDER, 5);
    dueFault("a{20,19}", ORDER, 5);
    dueFault("a{20,0}", ORDER, 5);
    dueFault("()?(a{2,1})", ORDER, 8);
  }

  /** .. : at its first BYTE. */
  private static void orderAtTheFirstByte() {
    dueFault("[a-\\^]", ORDER, 3);
    dueFault("[\\^-\\[]", ORDER, 4);
    dueFault("a{15,14}", ORDER, 5);
    dueFault("a{15,00}", ORDER, 5);
  }

  /** 3 MUCH: an N above 20 (at its first digit). */
  private static void numberAboveTwenty() {
    dueSize("a{20}", 20);
    dueSize("a{20,}", 22);
    dueSize("a{20,20}", 20);
    dueSize("a{0,20}", 40);
    dueFault("a{21}", MUCH, 2);
    dueFault("a{21,}", MUCH, 2);
    dueFault("a{99}", MUCH, 2);
    dueFault("a{21,22}", MUCH, 2);
    dueFault("a{0,21}", MUCH, 4);
    dueFault("a{20,21}", MUCH, 5);
    dueFault("(){21}", MUCH, 3);
  }

  /** .. of three digits the first two are it. */
  private static void ofThreeDigitsTheFirstTwo() {
    dueFault("a{210}", MUCH, 2);
    dueFault("a{211}", MUCH, 2);
    dueFault("a{999}", MUCH, 2);
    dueFault("a{200}", FORM, 4);
    dueFault("a{209}", FORM, 4);
    dueFault("a{021}", FORM, 4);
    dueFault("a{1,210}", MUCH, 4);
    dueFault("a{1,209}", FORM, 6);
    dueFault("a{12,110}", ORDER, 5);
    dueFault("a{11,110}", FORM, 7);
    dueFault("a{1,001}", ORDER, 4);
  }

  /** .. a ( that would be the 11th that is open (at it). */
  private static void tenOpenAtOnce() {
    dueSize(TEN_OPEN + "a" + TEN_CLOSED, 1);
    dueFault(TEN_OPEN + "(a)" + TEN_CLOSED, MUCH, 10);
    dueFault(TEN_OPEN + "(", MUCH, 10);
    dueFault(TEN_OPEN + "a|b(", MUCH, 13);
    dueFault("ab" + TEN_OPEN + "c*(", MUCH, 14);
    dueFault(TEN_OPEN, FORM, 10);
  }

  /** Ten that are open, each with an ALT, a CAT and a COUNT: what stands inside is still known. */
  private static void tenOpenWithAllElse() {
    for (String count : new String[] {"", "+", "{1}"}) {
      String regex = "x|(".repeat(10) + "x|b" + (")" + count).repeat(10);
      GramFinder x = new GramFinder();
      Check.add(x, "aabc");
      Check.due("search(" + regex + ")", Check.search(x, regex, false), 1);
      Check.due("its begin", x.hit(0, 1), 2);
      Check.due("its end", x.hit(0, 2), 3);
      Check.dueText("its heads", Check.textsOf(x, 1), "<b><x>");
      Check.dueText("its tails", Check.textsOf(x, 2), "<b><x>");
    }
    GramFinder x = new GramFinder();
    Check.add(x, "yybccc");
    String regex = "x|y(".repeat(10) + "x|bc+" + ")?".repeat(10);
    Check.due("search(" + regex + ")", Check.search(x, regex, false), 1);
    Check.due("its begin", x.hit(0, 1), 0);
    Check.due("its end", x.hit(0, 2), 2);
    String deep = "x|(".repeat(10) + "x|bc+" + "){1}".repeat(10);
    Check.due("search(" + deep + ")", Check.search(x, deep, false), 1);
    Check.due("its begin", x.hit(0, 1), 2);
    Check.due("its end", x.hit(0, 2), 6);
    Check.dueText("its heads", Check.textsOf(x, 1), "<bc><x>");
  }

  /** .. that is open: what is closed, escaped or a ONE is none. */
  private static void parensThatOpenNothing() {
    dueSize("()".repeat(11), 0);
    dueSize(TEN_OPEN + TEN_CLOSED + TEN_OPEN + TEN_CLOSED, 0);
    dueSize(TEN_OPEN + ")(" + TEN_CLOSED, 0);
    dueFault(TEN_OPEN + ")((" + TEN_CLOSED, MUCH, 12);
    dueSize(TEN_OPEN + "\\(" + TEN_CLOSED, 1);
    dueSize(TEN_OPEN + "[(]" + TEN_CLOSED, 1);
    dueSize(TEN_OPEN + "[^((]" + TEN_CLOSED, 1);
    dueFault(TEN_OPEN + "[((]\\((", MUCH, 16);
  }

  /** Else the first one by its place. */
  private static void firstByItsPlace() {
    dueFault("a{2,1}*+", ORDER, 4);
    dueFault("a*+{2,1}", FORM, 2);
    dueFault("a{21}**", MUCH, 2);
    dueFault("a**{21}", FORM, 2);
    dueFault("[b-a]a{21}", ORDER, 3);
    dueFault("a{21}[b-a]", MUCH, 2);
    dueFault(TEN_OPEN + "(" + "[b-a]", MUCH, 10);
    dueFault("[b-a]" + TEN_OPEN + "(", ORDER, 3);
    dueFault("a{21,20}", MUCH, 2);
    dueFault("[b-a][\\q]", ORDER, 3);
    dueFault("[\\q][b-a]", FORM, 2);
    dueFault("[b-ac-", ORDER, 3);
    dueFault("a{21", MUCH, 2);
    dueFault("a{2,1", ORDER, 4);
  }

  /** .. of one place the least: a ( at which a N is due; the length, if the SIZE is above 200 too. */
  private static void ofOnePlaceTheLeast() {
    dueFault(TEN_OPEN + "a{(", FORM, 12);
    dueFault(TEN_OPEN + "a{2(", FORM, 13);
    dueFault(TEN_OPEN + "a{2,(", FORM, 14);
    dueFault("(a{20}){20}(", FORM, 12);
    dueFault("(a{20}){20}[", FORM, 12);
    dueFault("(a{20}){20}\\", FORM, 12);
  }

  // ---- the size

  /** SIZE: of an ATOM 1. */
  private static void sizeOfAtoms() {
    for (String atom : new String[] {"a", "\\n", "\\.", "\\d", "\\w", "\\s", "\\b", ".", "^", "$", "[a]", "[^a-z]"}) {
      dueSize(atom, 1);
      dueSize("(" + atom + ")", 1);
      dueSize(atom + atom, 2);
      dueSize(atom + "|" + atom, 3);
      dueSize(atom + "*", 2);
      dueSize(atom + "{0}", 0);
      dueSize(atom + "{0,}", 2);
      dueSize(atom + "{1,}", 3);
      dueSize(atom + "{3}", 3);
      dueSize(atom + "{1,3}", 5);
    }
  }

  /** 3 MUCH .. if the SIZE is above 200: not at 200, in whichever way it comes to be. */
  private static void sizeAboveTwoHundred() {
    dueSizeAtMost("(a{20}){10}", "(a{20}){10}a");
    dueSizeAtMost(SIZE_180 + "a{20}", SIZE_180 + "a{20}b");
    dueSizeAtMost(SIZE_180 + "a{19}|", SIZE_180 + "a{20}|");
    dueSizeAtMost("(" + SIZE_180 + "a{19})*", "(" + SIZE_180 + "a{20})*");
    dueSizeAtMost("(" + SIZE_180 + "a{19})+", "(" + SIZE_180 + "a{20})+");
    dueSizeAtMost("(" + SIZE_180 + "a{19})?", "(" + SIZE_180 + "a{20})?");
    dueSizeAtMost("(" + SIZE_180 + "a{19}){0,}", "(" + SIZE_180 + "a{20}){0,}");
    dueSizeAtMost("((a{11}){9}){1,}a", "((a{10}){10}){1,}");
    dueSizeAtMost("(a{19}){0,10}", "(a{19}){0,10}b");
    dueSizeAtMost("(" + SIZE_180 + "a{20})()", "(" + SIZE_180 + "a{20})(){0,1}");
  }

  private static void dueSizeAtMost(String most, String more) {
    dueSize(most, 200);
    dueFault(more, MUCH, more.length());
    Check.due(more, new GramFinder().count(9), 0);
  }

  /** .. at the length: of 80 BYTES at 80. */
  private static void sizeAboveTwoHundredAtTheLength() {
    dueFault("(a{20}){11}", MUCH, 11);
    dueFault("(a{20}){11}()", MUCH, 13);
    dueFault("(a{20}){11}" + "x".repeat(69), MUCH, 80);
    dueFault("(a{20}){11}" + "x".repeat(70), MUCH, 80);
  }

  /** If there is none of these: any other fault is told ahead of it. */
  private static void sizeIfNoOtherFault() {
    dueFault("(a{20}){20})", FORM, 11);
    dueFault("(a{20}){20}[b-a]", ORDER, 14);
    dueFault("(a{20}){20}a{2,1}", ORDER, 15);
    dueFault("(a{20}){20}a{21}", MUCH, 13);
    dueFault("(a{20}){20}" + TEN_OPEN + "(", MUCH, 21);
    dueFault("(a{20}){20}(", FORM, 12);
  }

  /** (Whole numbers without bound.) 16 times 16 and so on would be 0 in an int, eight times 20 below 0 or small. */
  private static void sizeWithoutBound() {
    for (int levels = 2; levels <= 10; levels++) {
      for (int n = 14; n <= 20; n++) {
        String regex = "(".repeat(levels) + "a{" + n + "}" + ("){" + n + "}").repeat(levels);
        if (regex.length() <= 80) {
          dueFault(regex, MUCH, regex.length());
        }
      }
    }
    dueFault("(((((((a{16}){16}){16}){16}){16}){16}){16}){8}", MUCH, 46);
    dueFault("(((((((a{16}){16}){16}){16}){16}){16}){16}){16}", MUCH, 47);
    dueFault("(((((((a{16}){16}){16}){16}){16}){16}){16}){16}|b", MUCH, 49);
    dueSize("((((((((a{20}){20}){20}){20}){20}){20}){20}){20}){0}b", 1);
    dueSize("(((((((((a{20}){20}){20}){20}){20}){20}){20}){20}){20}){0,0}|", 1);
    dueFault("((((((((a{20}){20}){20}){20}){20}){20}){20}){20}){0,1}", MUCH, 54);
  }

  /** count: 9: the SIZE of the latest SEARCH's REGEX (0 ahead of any). */
  private static void sizeOfTheLatestSearch() {
    GramFinder x = new GramFinder();
    Check.due("count(9) ahead of any", x.count(9), 0);
    Check.search(x, "(", false);
    Check.due("count(9) ahead of any but one with a fault", x.count(9), 0);
    Check.search(x, "ab|c", false);
    Check.due("count(9)", x.count(9), 4);
    Check.search(x, "(a{20}){11}", false);
    Check.due("count(9) behind one with a fault", x.count(9), 4);
    Check.search(x, "", false);
    Check.due("count(9) of nothing", x.count(9), 0);
  }

  // ---- promise 11

  /** NONE for others. */
  private static void faultOfOthers() {
    GramFinder x = new GramFinder();
    Check.search(x, "a{21}", false);
    Check.due("fault(0)", x.fault(0), MUCH);
    Check.due("fault(1)", x.fault(1), 2);
    Check.due("fault(2)", x.fault(2), NONE);
    Check.due("fault(3)", x.fault(3), NONE);
    Check.due("fault(-1)", x.fault(-1), NONE);
    for (int what : Check.WILD) {
      Check.due("fault(" + what + ")", x.fault(what), NONE);
    }
  }

  /** 0 and NONE ahead of any. */
  private static void faultAheadOfAny() {
    GramFinder x = new GramFinder();
    Check.due("fault(0) of a new one", x.fault(0), 0);
    Check.due("fault(1) of a new one", x.fault(1), NONE);
    Check.write(x, "(");
    Check.due("fault(0) ahead of any", x.fault(0), 0);
    Check.due("fault(1) ahead of any", x.fault(1), NONE);
    x.add();
    Check.due("fault(0) behind an add", x.fault(0), 0);
    Check.due("fault(1) behind an add", x.fault(1), NONE);
  }

  /** Of the latest search(): what 0 its FAULT (0 without one), 1: the place (NONE without one). */
  private static void faultOfTheLatest() {
    GramFinder x = new GramFinder();
    Check.dueFault(x, "*", FORM, 0);
    Check.dueFault(x, "ab[b-a]", ORDER, 5);
    Check.dueFault(x, "a{1,21}", MUCH, 4);
    Check.dueNoFault(x, "a", 1);
    Check.dueFault(x, ")", FORM, 0);
    x.remove(0);
    Check.add(x, "abc");
    x.count(0);
    Check.due("fault(0) stays", x.fault(0), FORM);
    Check.due("fault(1) stays", x.fault(1), 0);
    Check.dueNoFault(x, "", 0);
  }
}
