/** The edges of promises 10 and 14 to 18: each method holds the sentence that stands above it. */
public final class ToldEdgesTest {
  private static final int NONE = GramFinder.NONE;

  private ToldEdgesTest() {}

  public static void main(String[] args) {
    noneIsMinusOne();
    searchAnswersItsHits();
    searchWithFoldOrWithout();
    searchAgainAndAgain();
    choicesHowMany();
    choicesOfTwentyFour();
    choicesInOrder();
    choiceOfNoneSuch();
    choiceAheadOfAny();
    gramsRise();
    gramOfNoneSuch();
    gramAheadOfAny();
    textsOfExact();
    textsOfOpen();
    textsOfOthers();
    textsAheadOfAny();
    textInOrder();
    textOfSixtyBytes();
    textOfNoneSuch();
    textAheadOfAny();
    countOfFilesThere();
    countOfBytes();
    countOfFilesThatCame();
    countOfDifferentGrams();
    countOfGramsOfEach();
    countOfTheTape();
    countOfSearches();
    countOfOthers();
    Check.finish();
  }

  /** NONE = -1. */
  private static void noneIsMinusOne() {
    Check.due("NONE", GramFinder.NONE, -1);
  }

  // ---- promise 10

  /** search: how many HITS: of no FILES, of no HITS, of all. */
  private static void searchAnswersItsHits() {
    GramFinder x = new GramFinder();
    Check.due("without files", Check.search(x, "a", false), 0);
    Check.due("fault(0)", x.fault(0), 0);
    for (int f = 0; f < 40; f++) {
      Check.add(x, "abc".substring(0, f % 4));
    }
    Check.due("of all", Check.search(x, "", false), 40);
    Check.due("of those with one", Check.search(x, "a", false), 30);
    Check.due("of those with three", Check.search(x, "abc", false), 10);
    Check.due("of none", Check.search(x, "abcd", false), 0);
    Check.due("of none that is opened", Check.search(x, "x", false), 0);
    Check.due("of a tape that is empty", x.search(false), 40);
  }

  /** .. with FOLD or without. */
  private static void searchWithFoldOrWithout() {
    GramFinder x = new GramFinder();
    for (String file : new String[] {"aBc", "abc", "ABC", "xyz"}) {
      Check.add(x, file);
    }
    Check.due("without", Check.search(x, "abc", false), 1);
    Check.due("opened(0) without", x.opened(0), 1);
    Check.due("with", Check.search(x, "abc", true), 3);
    Check.due("opened(0) with", x.opened(0), 0);
    Check.due("opened(2) with", x.opened(2), 2);
    Check.due("choice(NONE) with", x.choice(NONE), 8);
    Check.due("texts(0) with", x.texts(0), 8);
    Check.due("without again", Check.search(x, "aBc", false), 1);
    Check.due("opened(0) without", x.opened(0), 0);
    Check.due("texts(0) without", x.texts(0), 1);
  }

  /** Any search answers as that of a new object would: as many as 512 calls leave room for. */
  private static void searchAgainAndAgain() {
    String[] regexes = {"(a{19}b){9}c{16}|[abc][^abc]\\w", "[a-c][d-f][g-i][j-l][m-o][p-r][s-u]\\w[^ ][0-9]*|x",
        "a|b|c|d|e|f|g|h|i|j|k|l|m|n|o|p", "(a|b|(c|d|(e|f|(g|h|(i|j|k+)+)+)+)+)+", "abc(", "x"};
    String file = "abcdefghijklm adgjmpsx0123 x";
    GramFinder used = new GramFinder();
    Check.add(used, file);
    int calls = 10;
    for (int i = 0; calls < 480; i++) {
      String regex = regexes[i % regexes.length];
      GramFinder fresh = new GramFinder();
      Check.add(fresh, file);
      Check.due("search " + i, Check.search(used, regex, false), Check.search(fresh, regex, false));
      Check.due("fault behind search " + i, used.fault(1), fresh.fault(1));
      if (fresh.fault(0) == 0) {
        Check.due("begin behind search " + i, used.hit(0, 1), fresh.hit(0, 1));
        Check.due("end behind search " + i, used.hit(0, 2), fresh.hit(0, 2));
        Check.due("heads behind search " + i, used.texts(1), fresh.texts(1));
        Check.due("size behind search " + i, used.count(9), fresh.count(9));
      }
      calls += 3 + (regex.length() + 19) / 20 + 8;
    }
  }

  // ---- promises 14 and 15

  /** i NONE: how many CHOICES; else how many GRAMS its i-th CHOICE has. */
  private static void choicesHowMany() {
    GramFinder x = new GramFinder();
    Check.search(x, "abcd|xyz|klmno", false);
    int[] want = {3, 2, 3, 1, NONE};
    for (int i = -1; i < 4; i++) {
      Check.due("choice(" + i + ")", x.choice(i), want[i + 1]);
    }
    Check.search(x, "", false);
    Check.due("choice(NONE) of ALL", x.choice(NONE), 1);
    Check.due("choice(0) of ALL", x.choice(0), 0);
    Check.due("choice(1) of ALL", x.choice(1), NONE);
    Check.search(x, "abcdefghijklmnopqrstuvwxyzABCDEFGHIJKLMNOPQRSTUVWXYZ0123456789", false);
    Check.due("choice(0) of many grams", x.choice(0), 50 + 10);
  }

  /** .. 24 CHOICES are there to tell. */
  private static void choicesOfTwentyFour() {
    GramFinder x = new GramFinder();
    Check.search(x, "[a-h]xx.|[a-h]yy.|[a-h]zz.", false);
    Check.due("choice(NONE)", x.choice(NONE), 24);
    Check.due("choice(23)", x.choice(23), 1);
    Check.due("choice(24)", x.choice(24), NONE);
    Check.due("gram(23, 0)", x.gram(23, 0), Check.gram("hzz"));
    Check.due("gram(24, 0)", x.gram(24, 0), NONE);
  }

  /** .. they are ordered by their GRAMS, the least first, at the first that differs. */
  private static void choicesInOrder() {
    WantTest.due("xyz|abc|mno", "<abc><mno><xyz>", "<abc><mno><xyz>", "<ab><mn><xy>", "<bc><no><yz>");
    WantTest.due("xyza|abc.xyzb|abc.xyzc|abc.abb", "<abb abc><abc xyz yzb><abc xyz yzc><xyz yza>", "",
        "<ab><xy>", "<bb><za><zb><zc>");
    WantTest.due("bcda|zabcd|abcz", "<abc bcd zab><abc bcz><bcd cda>", "<abcz><bcda><zabcd>", "<ab><bc><za>",
        "<cd><cz><da>");
    WantTest.due("~~~|   |\\n\\n\\n", "<\n\n\n><   ><~~~>", "<\n\n\n><   ><~~~>", "<\n\n><  ><~~>",
        "<\n\n><  ><~~>");
  }

  /** choice: NONE if there is none such. */
  private static void choiceOfNoneSuch() {
    GramFinder x = new GramFinder();
    Check.search(x, "abc|xyz", false);
    Check.due("choice(1)", x.choice(1), 1);
    Check.due("choice(2)", x.choice(2), NONE);
    Check.due("choice(-2)", x.choice(-2), NONE);
    for (int i : Check.WILD) {
      Check.due("choice(" + i + ")", x.choice(i), NONE);
    }
  }

  /** .. or ahead of any SEARCH: one with a FAULT is none. */
  private static void choiceAheadOfAny() {
    GramFinder x = new GramFinder();
    for (int turn = 0; turn < 2; turn++) {
      for (int i = -2; i <= 24; i++) {
        Check.due("choice(" + i + ") ahead of any", x.choice(i), NONE);
      }
      Check.search(x, "abc(", false);
    }
    Check.search(x, "abc", false);
    Check.due("choice(NONE)", x.choice(NONE), 1);
  }

  /** The k-th GRAM (from 0 on, rising) of the i-th CHOICE. */
  private static void gramsRise() {
    GramFinder x = new GramFinder();
    Check.search(x, "zyxwabcde", false);
    String[] want = {"abc", "bcd", "cde", "wab", "xwa", "yxw", "zyx"};
    Check.due("choice(0)", x.choice(0), want.length);
    for (int k = 0; k < want.length; k++) {
      Check.due("gram(0, " + k + ")", x.gram(0, k), Check.gram(want[k]));
    }
    Check.due("gram(0, 7)", x.gram(0, 7), NONE);
    Check.search(x, "aaaa", false);
    Check.due("alike ones are one", x.choice(0), 1);
    Check.due("gram(0, 1)", x.gram(0, 1), NONE);
  }

  /** gram: NONE if there is none such. */
  private static void gramOfNoneSuch() {
    GramFinder x = new GramFinder();
    Check.search(x, "abc|klmn", false);
    Check.due("gram(0, 0)", x.gram(0, 0), Check.gram("abc"));
    Check.due("gram(0, 1)", x.gram(0, 1), NONE);
    Check.due("gram(0, -1)", x.gram(0, -1), NONE);
    Check.due("gram(1, 1)", x.gram(1, 1), Check.gram("lmn"));
    Check.due("gram(1, 2)", x.gram(1, 2), NONE);
    Check.due("gram(2, 0)", x.gram(2, 0), NONE);
    Check.due("gram(-1, 0)", x.gram(-1, 0), NONE);
    Check.due("gram(-1, -1)", x.gram(-1, -1), NONE);
    for (int n : Check.WILD) {
      Check.due("gram(" + n + ", 0)", x.gram(n, 0), NONE);
      Check.due("gram(1, " + n + ")", x.gram(1, n), NONE);
    }
  }

  /** .. nor ahead of any SEARCH. */
  private static void gramAheadOfAny() {
    GramFinder x = new GramFinder();
    Check.due("gram(0, 0) of a new one", x.gram(0, 0), NONE);
    Check.due("gram(-1, 0) of a new one", x.gram(-1, 0), NONE);
    Check.search(x, "abc(", false);
    Check.due("gram(0, 0) behind a fault", x.gram(0, 0), NONE);
  }

  // ---- promises 16 and 17

  /** 0: how many TEXTS, if it is EXACT. */
  private static void textsOfExact() {
    GramFinder x = new GramFinder();
    String[] regexes = {"", "a", "a|b", "a|a", "[a-h]", "|", "^"};
    int[] texts = {1, 1, 2, 1, 8, 1, 1};
    for (int i = 0; i < regexes.length; i++) {
      Check.search(x, regexes[i], false);
      Check.due("texts(0) of " + regexes[i], x.texts(0), texts[i]);
    }
  }

  /** .. (0 if it is OPEN); 1: how many HEADS, 2: how many TAILS it has when it is OPENED: never none. */
  private static void textsOfOpen() {
    GramFinder x = new GramFinder();
    for (String regex : new String[] {".", "a*", "a+", "[a-i]", "ab.", "a{0,8}"}) {
      Check.search(x, regex, false);
      Check.due("texts(0) of " + regex, x.texts(0), 0);
      Check.due("texts(1) of " + regex, x.texts(1), 1);
      Check.due("texts(2) of " + regex, x.texts(2), 1);
      Check.due("text(0, 0, 0) of " + regex, x.text(0, 0, 0), NONE);
    }
    Check.search(x, "[a-f]x.|[a-f]y.", false);
    Check.due("texts(1) of twelve", x.texts(1), 12);
    Check.due("text(1, 11, 1) of twelve", x.text(1, 11, 1), 'y');
    Check.due("text(1, 12, 0) of twelve", x.text(1, 12, 0), NONE);
    Check.search(x, ".x[a-f]|.y[a-f]", false);
    Check.due("texts(2) of twelve", x.texts(2), 12);
    Check.due("text(2, 11, 1) of twelve", x.text(2, 11, 1), 'f');
    Check.due("text(2, 12, 0) of twelve", x.text(2, 12, 0), NONE);
  }

  /** texts: NONE for others. */
  private static void textsOfOthers() {
    GramFinder x = new GramFinder();
    Check.search(x, "abc", false);
    Check.due("texts(2)", x.texts(2), 1);
    Check.due("texts(3)", x.texts(3), NONE);
    Check.due("texts(-1)", x.texts(-1), NONE);
    for (int what : Check.WILD) {
      Check.due("texts(" + what + ")", x.texts(what), NONE);
      Check.due("text(" + what + ", 0, 0)", x.text(what, 0, 0), NONE);
    }
    Check.due("text(3, 0, 0)", x.text(3, 0, 0), NONE);
    Check.due("text(-1, 0, 0)", x.text(-1, 0, 0), NONE);
  }

  /** .. or ahead of any SEARCH: one with a FAULT is none. */
  private static void textsAheadOfAny() {
    GramFinder x = new GramFinder();
    for (int turn = 0; turn < 2; turn++) {
      for (int what = -1; what <= 3; what++) {
        Check.due("texts(" + what + ") ahead of any", x.texts(what), NONE);
      }
      Check.search(x, "abc(", false);
    }
  }

  /** BYTE k of the i-th of these TEXTS (from 0 on, in their ORDER). */
  private static void textInOrder() {
    GramFinder x = new GramFinder();
    Check.search(x, "b|ab|a|\\n", false);
    String[] texts = {"\n", "a", "ab", "b"};
    for (int i = 0; i < texts.length; i++) {
      for (int k = 0; k <= texts[i].length(); k++) {
        Check.due("text(0, " + i + ", " + k + ")", x.text(0, i, k), k < texts[i].length() ? texts[i].charAt(k) : NONE);
      }
    }
    Check.search(x, "cd.|ab.|b.", false);
    Check.due("text(1, 0, 1)", x.text(1, 0, 1), 'b');
    Check.due("text(1, 1, 0)", x.text(1, 1, 0), 'b');
    Check.due("text(1, 1, 1)", x.text(1, 1, 1), NONE);
    Check.due("text(1, 2, 1)", x.text(1, 2, 1), 'd');
    Check.search(x, ".cd|.ab|.a", false);
    Check.due("text(2, 0, 0)", x.text(2, 0, 0), 'a');
    Check.due("text(2, 0, 1)", x.text(2, 0, 1), NONE);
    Check.due("text(2, 1, 1)", x.text(2, 1, 1), 'b');
    Check.due("text(2, 2, 1)", x.text(2, 2, 1), 'd');
  }

  /** .. as many BYTES as a TEXT may have. */
  private static void textOfSixtyBytes() {
    GramFinder x = new GramFinder();
    Check.search(x, "(a{19}b){3}|(a{19}c){3}", false);
    Check.due("texts(0)", x.texts(0), 2);
    Check.due("text(0, 0, 59)", x.text(0, 0, 59), 'b');
    Check.due("text(0, 1, 58)", x.text(0, 1, 58), 'a');
    Check.due("text(0, 1, 59)", x.text(0, 1, 59), 'c');
    Check.due("text(0, 0, 60)", x.text(0, 0, 60), NONE);
    Check.due("text(0, 1, 60)", x.text(0, 1, 60), NONE);
  }

  /** text: NONE if there is none such. */
  private static void textOfNoneSuch() {
    GramFinder x = new GramFinder();
    Check.search(x, "abc|d|", false);
    for (int what = 0; what <= 2; what++) {
      int many = x.texts(what);
      for (int k = -1; k <= 2; k++) {
        Check.due("text(" + what + ", -1, " + k + ")", x.text(what, -1, k), NONE);
        Check.due("text(" + what + ", their number, " + k + ")", x.text(what, many, k), NONE);
      }
      Check.due("text(" + what + ", 0, -1)", x.text(what, 0, -1), NONE);
      Check.due("text(" + what + ", 0, 0): it has no bytes", x.text(what, 0, 0), NONE);
      for (int n : Check.WILD) {
        Check.due("text(" + what + ", " + n + ", 0)", x.text(what, n, 0), NONE);
        Check.due("text(" + what + ", 0, " + n + ")", x.text(what, 0, n), NONE);
        Check.due("text(" + what + ", the last, " + n + ")", x.text(what, many - 1, n), NONE);
      }
    }
    Check.due("text(0, 1, 2)", x.text(0, 1, 2), 'c');
    Check.due("text(0, 1, 3)", x.text(0, 1, 3), NONE);
    Check.due("text(0, 2, 0)", x.text(0, 2, 0), 'd');
    Check.due("text(0, 2, 1)", x.text(0, 2, 1), NONE);
    Check.search(x, "xab", false);
    Check.due("text(1, 0, 1)", x.text(1, 0, 1), 'a');
    Check.due("text(1, 0, 2)", x.text(1, 0, 2), NONE);
    Check.due("text(2, 0, 1)", x.text(2, 0, 1), 'b');
    Check.due("text(2, 0, 2)", x.text(2, 0, 2), NONE);
    Check.due("text(1, 0, -1)", x.text(1, 0, -1), NONE);
    Check.due("text(2, 0, -1)", x.text(2, 0, -1), NONE);
  }

  /** .. nor ahead of any SEARCH. */
  private static void textAheadOfAny() {
    GramFinder x = new GramFinder();
    for (int turn = 0; turn < 2; turn++) {
      for (int what = -1; what <= 3; what++) {
        Check.due("text(" + what + ", 0, 0) ahead of any", x.text(what, 0, 0), NONE);
        Check.due("text(" + what + ", -1, 0) ahead of any", x.text(what, -1, 0), NONE);
      }
      Check.search(x, "abc(", false);
    }
  }

  // ---- promise 18

  /** 0: FILES that are there. */
  private static void countOfFilesThere() {
    GramFinder x = new GramFinder();
    for (int f = 0; f < 40; f++) {
      x.add();
      Check.due("count(0)", x.count(0), f + 1);
    }
    x.add();
    Check.due("count(0) behind a refused add", x.count(0), 40);
    x.change(3);
    Check.due("count(0) behind a change", x.count(0), 40);
    for (int f = 0; f < 40; f++) {
      x.remove(f);
      Check.due("count(0)", x.count(0), 39 - f);
    }
    x.remove(0);
    Check.due("count(0) behind a refused remove", x.count(0), 0);
  }

  /** 1: their BYTES together: not those of the TAPE, nor of what is gone. */
  private static void countOfBytes() {
    GramFinder x = new GramFinder();
    Check.add(x, "a".repeat(1000));
    Check.add(x, "");
    Check.add(x, "bcd");
    Check.due("count(1)", x.count(1), 1003);
    Check.write(x, "tape");
    Check.due("count(1) with a tape", x.count(1), 1003);
    x.change(0);
    Check.due("count(1) behind a change", x.count(1), 7);
    x.remove(2);
    Check.due("count(1) behind a remove", x.count(1), 4);
    x.remove(2);
    Check.due("count(1) behind a refused remove", x.count(1), 4);
    x.remove(1);
    Check.due("count(1) behind a remove of none", x.count(1), 4);
    x.remove(0);
    Check.due("count(1) of none", x.count(1), 0);
  }

  /** 2: FILES that came: those that are gone too. */
  private static void countOfFilesThatCame() {
    GramFinder x = new GramFinder();
    for (int f = 0; f < 200; f++) {
      x.add();
      x.remove(f);
    }
    Check.due("count(2)", x.count(2), 200);
    x.add();
    Check.due("count(2) behind a refused add", x.count(2), 200);
    GramFinder y = new GramFinder();
    Check.add(y, "a");
    Check.change(y, 0, "b");
    Check.due("count(2) behind a change", y.count(2), 1);
  }

  /** 3: different GRAMS that some FILE HAS. */
  private static void countOfDifferentGrams() {
    GramFinder x = new GramFinder();
    Check.add(x, "ab");
    Check.due("of two bytes", x.count(3), 0);
    Check.add(x, "abc");
    Check.due("of three", x.count(3), 1);
    Check.add(x, "abcabc");
    Check.due("of alike ones", x.count(3), 3);
    Check.add(x, "\u00ff\u00ff\u00ff\u0000\u0000\u0000");
    Check.due("of the least and the greatest", x.count(3), 7);
    x.remove(2);
    Check.due("one that another file has stays", x.count(3), 5);
    x.remove(1);
    Check.due("one that no other file has goes", x.count(3), 4);
    Check.change(x, 3, "xyzz");
    Check.due("of what it has now", x.count(3), 2);
    GramFinder y = new GramFinder();
    StringBuilder all = new StringBuilder();
    for (int i = 0; i < 1000; i++) {
      all.append((char) (i % 250)).append((char) (i / 250));
    }
    Check.add(y, all.substring(0, 1000));
    Check.add(y, all.substring(1000));
    java.util.TreeSet<Integer> grams = Model.grams(all.substring(0, 1000));
    grams.addAll(Model.grams(all.substring(1000)));
    Check.due("of a thousand bytes each", y.count(3), grams.size());
  }

  /** 4: for each FILE how many different GRAMS it HAS, together. */
  private static void countOfGramsOfEach() {
    GramFinder x = new GramFinder();
    Check.add(x, "ab");
    Check.due("of two bytes", x.count(4), 0);
    Check.add(x, "abc");
    Check.add(x, "abcabc");
    Check.due("of one and three", x.count(4), 4);
    Check.add(x, "a".repeat(1000));
    Check.due("and of one a thousand times", x.count(4), 5);
    Check.change(x, 1, "abcd");
    Check.due("behind a change", x.count(4), 6);
    x.remove(2);
    Check.due("behind a remove", x.count(4), 3);
  }

  /** 5: BYTES of the TAPE. */
  private static void countOfTheTape() {
    GramFinder x = new GramFinder();
    for (int i = 1; i <= 50; i++) {
      x.feed(i, i, i, i, i);
      Check.due("count(5)", x.count(5), 20 * i);
    }
    x.feed(1, 1, 1, 1, 1);
    Check.due("count(5) behind a refused feed", x.count(5), 1000);
    x.end(999);
    Check.due("count(5) behind end(999)", x.count(5), 999);
    x.end(1000);
    Check.due("count(5) behind a refused end", x.count(5), 999);
    x.search(false);
    Check.due("count(5) behind a search", x.count(5), 0);
  }

  /** 6: SEARCHES, 7: FILES that they OPENED, 8: their HITS, all of them together. */
  private static void countOfSearches() {
    GramFinder x = new GramFinder();
    for (String file : new String[] {"abcd", "bcd abc", "xyz"}) {
      Check.add(x, file);
    }
    int[][] due = {{1, 2, 1}, {2, 5, 4}, {2, 5, 4}, {3, 5, 4}, {4, 6, 5}, {4, 6, 5}, {5, 7, 6}};
    String[] regexes = {"abcd", "", "(", "none", "xyz", "a{21}", "z$|abcd"};
    for (int i = 0; i < regexes.length; i++) {
      if (i == 6) {
        x.remove(0);
        x.remove(1);
      }
      Check.search(x, regexes[i], false);
      for (int what = 6; what <= 8; what++) {
        Check.due("count(" + what + ") behind " + regexes[i], x.count(what), due[i][what - 6]);
      }
    }
  }

  /** count: NONE for others. */
  private static void countOfOthers() {
    GramFinder x = new GramFinder();
    Check.add(x, "abc");
    Check.search(x, "abc", false);
    Check.due("count(9)", x.count(9), 3);
    Check.due("count(10)", x.count(10), NONE);
    Check.due("count(-1)", x.count(-1), NONE);
    for (int what : Check.WILD) {
      Check.due("count(" + what + ")", x.count(what), NONE);
    }
  }
}
