/** The edges of term 1 and of promises 1 to 9: each method holds the sentence that stands above it. */
public final class FileEdgesTest {
  private static final int NONE = GramFinder.NONE;

  private FileEdgesTest() {}

  public static void main(String[] args) {
    bytesAreZeroTo255();
    numbersComeInOrder();
    noNumberIsGivenAgain();
    noNumberGoesWithARefusal();
    fileOfNoBytes();
    fileOfAThousandBytes();
    atMostFortyAtOneTime();
    atMostTwoHundredInAll();
    gramIsThreeBytesSideBySide();
    gramNumber();
    lineOfAPlace();
    newTapeIsEmpty();
    newHasNoFiles();
    newHasNoSearch();
    feedHighestFirst();
    feedComesBehind();
    feedUpToAThousand();
    feedBeyondAThousand();
    endKeepsTheFirst();
    endOfAsManyAsThere();
    endOfMoreThanThere();
    endBelowNothing();
    addEmptiesTheTape();
    changeInsteadOfWhatItHad();
    changeEmptiesTheTape();
    changeOfNoSuchFile();
    changeWithFortyThere();
    removeMakesItGone();
    removeOfNoneSuch();
    sizeOfNoneSuch();
    byteAtOfNoneSuch();
    postingByNumbers();
    postingOfNoneSuch();
    postingOfNoSuchGram();
    Check.finish();
  }

  /** A finder with these files, and an empty tape. */
  private static GramFinder with(String... files) {
    GramFinder x = new GramFinder();
    for (String file : files) {
      Check.add(x, file);
    }
    return x;
  }

  private static void dueBytesOf(GramFinder x, int f, String want) {
    Check.due("size(" + f + ")", x.size(f), want.length());
    for (int i = 0; i < want.length(); i++) {
      Check.due("byteAt(" + f + ", " + i + ")", x.byteAt(f, i), want.charAt(i));
    }
    Check.due("byteAt(" + f + ", its size)", x.byteAt(f, want.length()), NONE);
  }

  // ---- term 1

  /** BYTES are 0 to 255. */
  private static void bytesAreZeroTo255() {
    StringBuilder all = new StringBuilder();
    for (int c = 0; c < 256; c++) {
      all.append((char) c);
    }
    dueBytesOf(with(all.toString()), 0, all.toString());
  }

  /** A FILE has a NUMBER (0, 1, .. in the order in which FILES come ..). */
  private static void numbersComeInOrder() {
    GramFinder x = new GramFinder();
    for (int i = 0; i < 40; i++) {
      Check.due("add number " + i, x.add(), i);
    }
  }

  /** .. none is given again. */
  private static void noNumberIsGivenAgain() {
    GramFinder x = with("a", "b", "c");
    x.remove(2);
    Check.due("behind a last one that is gone", Check.add(x, "d"), 3);
    x.remove(0);
    Check.due("behind a first one that is gone", Check.add(x, "e"), 4);
    x.remove(1);
    x.remove(3);
    x.remove(4);
    Check.due("behind all that are gone", Check.add(x, "f"), 5);
    dueBytesOf(x, 5, "f");
    for (int f = 0; f < 5; f++) {
      Check.due("size(" + f + ") of what is gone", x.size(f), NONE);
    }
  }

  /** A call that is refused changes nothing: add() gives its NUMBER to the next one. */
  private static void noNumberGoesWithARefusal() {
    GramFinder x = new GramFinder();
    for (int i = 0; i < 40; i++) {
      x.add();
    }
    Check.due("add, refused", x.add(), NONE);
    Check.due("add, refused again", x.add(), NONE);
    x.remove(39);
    Check.due("add", x.add(), 40);
    Check.due("count(2)", x.count(2), 41);
  }

  /** .. and 0 to 1,000 BYTES: of none. */
  private static void fileOfNoBytes() {
    GramFinder x = new GramFinder();
    Check.due("add of none", x.add(), 0);
    dueBytesOf(x, 0, "");
    Check.due("count(0)", x.count(0), 1);
    Check.due("count(1)", x.count(1), 0);
    Check.due("count(3)", x.count(3), 0);
    Check.due("count(4)", x.count(4), 0);
    Check.due("posting(0, 0)", x.posting(0, 0), NONE);
    Check.due("change to none", x.change(0), 0);
    Check.due("remove of none", x.remove(0), true);
    Check.due("count(0)", x.count(0), 0);
  }

  /** .. and 0 to 1,000 BYTES: of a thousand. */
  private static void fileOfAThousandBytes() {
    GramFinder x = with("a".repeat(999) + "z");
    Check.due("size(0)", x.size(0), 1000);
    Check.due("byteAt(0, 998)", x.byteAt(0, 998), 'a');
    Check.due("byteAt(0, 999)", x.byteAt(0, 999), 'z');
    Check.due("byteAt(0, 1000)", x.byteAt(0, 1000), NONE);
    Check.due("count(1)", x.count(1), 1000);
    Check.due("count(4): aaa aaz", x.count(4), 2);
    Check.due("posting of the last gram", x.posting(Check.gram("aaz"), 0), 0);
    Check.due("change to as many", Check.change(x, 0, "b".repeat(1000)), 1000);
    Check.due("byteAt(0, 999)", x.byteAt(0, 999), 'b');
    Check.due("count(1)", x.count(1), 1000);
  }

  /** .. at most 40 are there at one time. */
  private static void atMostFortyAtOneTime() {
    GramFinder x = new GramFinder();
    for (int i = 0; i < 39; i++) {
      x.add();
    }
    Check.due("the fortieth", x.add(), 39);
    Check.due("the forty-first", Check.add(x, "more"), NONE);
    Check.due("count(0)", x.count(0), 40);
    x.remove(0);
    Check.due("the fortieth again", x.add(), 40);
    dueBytesOf(x, 40, "more");
    Check.due("the forty-first again", x.add(), NONE);
    x.remove(1);
    x.remove(2);
    Check.due("the thirty-ninth", x.add(), 41);
    Check.due("the fortieth", x.add(), 42);
    Check.due("the forty-first", x.add(), NONE);
  }

  /** At most 200 FILES come in all: those that are gone among them. */
  private static void atMostTwoHundredInAll() {
    GramFinder x = new GramFinder();
    for (int i = 0; i < 199; i++) {
      x.add();
      if (i >= 10) {
        x.remove(i);
      }
    }
    Check.due("the last one that may come", Check.add(x, "last"), 199);
    Check.due("one more", Check.add(x, "none"), NONE);
    Check.due("the tape stays", x.count(5), 4);
    Check.due("count(0)", x.count(0), 11);
    Check.due("count(2)", x.count(2), 200);
    dueBytesOf(x, 199, "last");
    Check.due("a change still goes", x.change(199), 4);
    dueBytesOf(x, 199, "none");
    Check.due("remove(199)", x.remove(199), true);
    Check.due("none comes for what is gone", x.add(), NONE);
    Check.due("count(2)", x.count(2), 200);
    Check.due("size(200)", x.size(200), NONE);
    Check.due("change(200)", x.change(200), NONE);
    Check.due("remove(200)", x.remove(200), false);
  }

  /** A FILE HAS it, if they stand in it side by side, in this order. */
  private static void gramIsThreeBytesSideBySide() {
    GramFinder x = with("ab", "abc", "abxcd", "cba", "xxabc", "abcab", "c");
    int[] holders = {1, 4, 5, NONE};
    for (int i = 0; i < holders.length; i++) {
      Check.due("posting(abc, " + i + ")", x.posting(Check.gram("abc"), i), holders[i]);
    }
    Check.due("the other way round", x.posting(Check.gram("cba"), 0), 3);
    Check.due("over the end of a file", x.posting(Check.gram("cca"), 0), NONE);
    Check.due("from its end to its front", x.posting(Check.gram("cab"), 0), 5);
    Check.due("of one file no other", x.posting(Check.gram("cab"), 1), NONE);
    Check.due("two bytes have none", with("ab").count(4), 0);
    Check.due("three bytes have one", with("abc").count(4), 1);
    Check.due("alike ones are one", with("aaaa").count(4), 1);
  }

  /** .. told as 65536 * a + 256 * b + c. */
  private static void gramNumber() {
    GramFinder x = with("\u0000\u0000\u0000", "\u0000\u0000\u0001", "\u0000\u0001\u0000", "\u0001\u0000\u0000",
        "\u00ff\u00ff\u00ff", "\u0080\u0000\u007f");
    int[] grams = {0, 1, 256, 65536, 16777215, 0x80007F};
    for (int f = 0; f < grams.length; f++) {
      Check.due("posting(" + grams[f] + ", 0)", x.posting(grams[f], 0), f);
      Check.due("posting(" + grams[f] + ", 1)", x.posting(grams[f], 1), NONE);
    }
    Check.search(x, "abc", false);
    Check.due("gram(0, 0) of abc", x.gram(0, 0), 65536 * 97 + 256 * 98 + 99);
  }

  /** The LINE of a place of a FILE is 1 more than how many BYTES 10 stand ahead of it. */
  private static void lineOfAPlace() {
    dueLine("a", "a", 1);
    dueLine("\na", "a", 2);
    dueLine("\n\n\na", "a", 4);
    dueLine("a\n\n", "a", 1);
    dueLine("\n", "\\n", 1);
    dueLine("\r\u000b\fa", "a", 1);
    dueLine("x\n", "^$", 2);
    dueLine("", "^$", 1);
    dueLine("\n".repeat(999) + "a", "a", 1000);
  }

  private static void dueLine(String file, String regex, int line) {
    GramFinder x = with(file);
    Check.search(x, regex, false);
    Check.due("line of " + regex + " in " + file.replace("\n", "\\n"), x.hit(0, 3), line);
  }

  // ---- promise 1

  /** An empty TAPE. */
  private static void newTapeIsEmpty() {
    GramFinder x = new GramFinder();
    Check.due("new: count(5)", x.count(5), 0);
    Check.due("new: end(1)", x.end(1), false);
    Check.due("new: the first feed", x.feed(0, 0, 0, 0, 0), 20);
    Check.due("new: the file of an empty tape", new GramFinder().add(), 0);
  }

  /** No FILES. */
  private static void newHasNoFiles() {
    GramFinder x = new GramFinder();
    Check.due("new: count(0)", x.count(0), 0);
    Check.due("new: count(1)", x.count(1), 0);
    Check.due("new: count(2)", x.count(2), 0);
    Check.due("new: size(0)", x.size(0), NONE);
    Check.due("new: search", x.search(false), 0);
    Check.due("new: opened(0)", x.opened(0), NONE);
  }

  /** No SEARCH. */
  private static void newHasNoSearch() {
    GramFinder x = new GramFinder();
    for (int what = 6; what <= 9; what++) {
      Check.due("new: count(" + what + ")", x.count(what), 0);
    }
    Check.due("new: choice(NONE)", x.choice(NONE), NONE);
    Check.due("new: texts(0)", x.texts(0), NONE);
    Check.due("new: fault(0)", x.fault(0), 0);
    Check.due("new: hit(0, 0)", x.hit(0, 0), NONE);
    Check.due("new: opened(0)", x.opened(0), NONE);
  }

  // ---- promise 2

  /** .. of each number the highest first. */
  private static void feedHighestFirst() {
    GramFinder x = new GramFinder();
    x.feed(0x01020304, 0x80000000, 0x7FFFFFFF, -2, 255);
    x.add();
    dueBytesOf(x, 0, "\u0001\u0002\u0003\u0004\u0080\u0000\u0000\u0000\u007f\u00ff\u00ff\u00ff"
        + "\u00ff\u00ff\u00ff\u00fe\u0000\u0000\u0000\u00ff");
  }

  /** Twenty BYTES come behind those on the TAPE .. : how many it has. */
  private static void feedComesBehind() {
    GramFinder x = new GramFinder();
    int abcd = 0x61626364;
    int none = 0;
    Check.due("feed", x.feed(abcd, none, none, none, none), 20);
    x.end(3);
    Check.due("feed behind three", x.feed(abcd, none, none, none, none), 23);
    x.end(4);
    Check.due("feed behind four", x.feed(abcd, abcd, none, none, none), 24);
    x.end(9);
    x.add();
    dueBytesOf(x, 0, "abcaabcda");
  }

  /** NONE .. if it would have more than 1,000: not at 1,000. */
  private static void feedUpToAThousand() {
    GramFinder x = new GramFinder();
    for (int i = 1; i < 50; i++) {
      x.feed(0, 0, 0, 0, i);
    }
    Check.due("feed from 980", x.feed(0, 0, 0, 0, 'z'), 1000);
    Check.due("count(5)", x.count(5), 1000);
    x.add();
    Check.due("size(0)", x.size(0), 1000);
    Check.due("byteAt(0, 999)", x.byteAt(0, 999), 'z');
  }

  /** NONE, and none comes, if it would have more than 1,000. */
  private static void feedBeyondAThousand() {
    for (int length = 981; length <= 1000; length++) {
      GramFinder x = new GramFinder();
      Check.write(x, "y".repeat(length));
      Check.due("feed from " + length, x.feed(0, 0, 0, 0, 0), NONE);
      Check.due("feed from " + length + " again", x.feed(0, 0, 0, 0, 0), NONE);
      Check.due("none comes to " + length, x.count(5), length);
      x.add();
      Check.due("the last byte of " + length, x.byteAt(0, length - 1), 'y');
      Check.due("no byte behind " + length, x.byteAt(0, length), NONE);
    }
  }

  // ---- promise 3

  /** The TAPE has its first n BYTES alone: true. */
  private static void endKeepsTheFirst() {
    GramFinder x = new GramFinder();
    Check.write(x, "abcdef");
    Check.due("end(5)", x.end(5), true);
    Check.due("end(1)", x.end(1), true);
    Check.due("count(5)", x.count(5), 1);
    x.add();
    dueBytesOf(x, 0, "a");
    Check.write(x, "abcdef");
    Check.due("end(0)", x.end(0), true);
    Check.due("count(5)", x.count(5), 0);
    Check.due("end(0) of an empty tape", x.end(0), true);
    x.add();
    dueBytesOf(x, 1, "");
  }

  /** .. false if it has fewer: not if it has as many. */
  private static void endOfAsManyAsThere() {
    GramFinder x = new GramFinder();
    Check.write(x, "b".repeat(1000));
    Check.due("end(1000)", x.end(1000), true);
    Check.due("count(5)", x.count(5), 1000);
    Check.due("end(1)", x.end(1), true);
    Check.due("end(1) again", x.end(1), true);
    Check.due("count(5)", x.count(5), 1);
  }

  /** false if it has fewer. */
  private static void endOfMoreThanThere() {
    GramFinder x = new GramFinder();
    Check.due("end(1) of an empty tape", x.end(1), false);
    x.feed(0, 0, 0, 0, 0);
    Check.due("end(21)", x.end(21), false);
    Check.due("end(1000)", x.end(1000), false);
    x.end(7);
    Check.due("end(8): what is cut does not come back", x.end(8), false);
    Check.due("end(20)", x.end(20), false);
    Check.due("count(5)", x.count(5), 7);
    Check.write(x, "b".repeat(1000));
    Check.due("end(1001)", x.end(1001), false);
    for (int n : Check.WILD) {
      Check.due("end(" + n + ") of 1,000", x.end(n), false);
    }
    Check.due("count(5)", x.count(5), 1000);
  }

  /** .. or n is below 0. */
  private static void endBelowNothing() {
    GramFinder x = new GramFinder();
    Check.due("end(-1) of an empty tape", x.end(-1), false);
    Check.write(x, "abc");
    for (int n : new int[] {-1, -2, -3, -20, Integer.MIN_VALUE, Integer.MIN_VALUE + 3}) {
      Check.due("end(" + n + ")", x.end(n), false);
    }
    Check.due("count(5)", x.count(5), 3);
  }

  // ---- promises 4 and 5

  /** The TAPE's BYTES (it is empty then) are a FILE. */
  private static void addEmptiesTheTape() {
    GramFinder x = with("abc");
    Check.due("count(5)", x.count(5), 0);
    Check.due("end(1)", x.end(1), false);
    Check.due("feed", x.feed(0x78797A00, 0, 0, 0, 0), 20);
    dueBytesOf(x, 0, "abc");
    x.end(2);
    Check.due("add", x.add(), 1);
    dueBytesOf(x, 1, "xy");
    Check.due("add of what is left", x.add(), 2);
    dueBytesOf(x, 2, "");
  }

  /** The TAPE's BYTES are those of FILE f now, instead of what it had: how many. */
  private static void changeInsteadOfWhatItHad() {
    GramFinder x = with("abcd", "abcd", "abcd");
    Check.due("change(1) to fewer", Check.change(x, 1, "bcx"), 3);
    dueBytesOf(x, 1, "bcx");
    Check.due("posting(abc, 1)", x.posting(Check.gram("abc"), 1), 2);
    Check.due("posting(bcx, 0)", x.posting(Check.gram("bcx"), 0), 1);
    Check.due("count(1)", x.count(1), 11);
    Check.due("change(1) to more", Check.change(x, 1, "0123456789"), 10);
    dueBytesOf(x, 1, "0123456789");
    Check.due("count(1)", x.count(1), 18);
    Check.due("change(1) to none", x.change(1), 0);
    dueBytesOf(x, 1, "");
    Check.due("count(1)", x.count(1), 8);
    Check.due("count(4)", x.count(4), 4);
    Check.due("change(1) to what it was", Check.change(x, 1, "abcd"), 4);
    Check.due("posting(abc, 1)", x.posting(Check.gram("abc"), 1), 1);
    dueBytesOf(x, 0, "abcd");
    dueBytesOf(x, 2, "abcd");
    Check.due("count(0)", x.count(0), 3);
    Check.due("count(2)", x.count(2), 3);
  }

  /** .. (it is empty then). */
  private static void changeEmptiesTheTape() {
    GramFinder x = with("abc");
    Check.change(x, 0, "wxyz");
    Check.due("count(5)", x.count(5), 0);
    Check.due("end(1)", x.end(1), false);
    x.feed(0, 0, 0, 0, 0);
    dueBytesOf(x, 0, "wxyz");
  }

  /** NONE, and the TAPE stays, if there is no such FILE. */
  private static void changeOfNoSuchFile() {
    GramFinder x = with("abc", "def");
    x.remove(0);
    Check.write(x, "tape");
    Check.due("change(0), which is gone", x.change(0), NONE);
    Check.due("change(2), the next to come", x.change(2), NONE);
    Check.due("change(-1)", x.change(-1), NONE);
    for (int f : Check.WILD) {
      Check.due("change(" + f + ")", x.change(f), NONE);
    }
    Check.due("count(5)", x.count(5), 4);
    Check.due("count(0)", x.count(0), 1);
    Check.due("count(2)", x.count(2), 2);
    Check.due("change(1)", x.change(1), 4);
    dueBytesOf(x, 1, "tape");
    GramFinder y = new GramFinder();
    Check.write(y, "tape");
    Check.due("change(0) without files", y.change(0), NONE);
    Check.due("count(5)", y.count(5), 4);
  }

  /** A change brings no FILE more: it goes where 40 are there. */
  private static void changeWithFortyThere() {
    GramFinder x = new GramFinder();
    for (int i = 0; i < 40; i++) {
      x.add();
    }
    Check.due("change(0)", Check.change(x, 0, "ab"), 2);
    Check.due("change(39)", Check.change(x, 39, "abc"), 3);
    dueBytesOf(x, 0, "ab");
    dueBytesOf(x, 39, "abc");
    Check.due("change(40)", Check.change(x, 40, "abcd"), NONE);
  }

  // ---- promises 6 to 9

  /** FILE f is not there any more: true. */
  private static void removeMakesItGone() {
    GramFinder x = with("abc", "abc", "abcd");
    Check.due("remove(1)", x.remove(1), true);
    Check.due("size(1)", x.size(1), NONE);
    Check.due("byteAt(1, 0)", x.byteAt(1, 0), NONE);
    Check.due("posting(abc, 0)", x.posting(Check.gram("abc"), 0), 0);
    Check.due("posting(abc, 1)", x.posting(Check.gram("abc"), 1), 2);
    Check.due("posting(abc, 2)", x.posting(Check.gram("abc"), 2), NONE);
    Check.due("search", Check.search(x, "abc", false), 2);
    Check.due("opened(1)", x.opened(1), 2);
    int[] counts = {2, 7, 3, 2, 3};
    for (int what = 0; what < counts.length; what++) {
      Check.due("count(" + what + ")", x.count(what), counts[what]);
    }
    Check.due("remove(0)", x.remove(0), true);
    Check.due("remove(2)", x.remove(2), true);
    Check.due("count(0)", x.count(0), 0);
    Check.due("count(1)", x.count(1), 0);
  }

  /** false if there is none such. */
  private static void removeOfNoneSuch() {
    GramFinder x = with("abc", "def");
    Check.due("remove(2), the next to come", x.remove(2), false);
    Check.due("remove(-1)", x.remove(-1), false);
    for (int f : Check.WILD) {
      Check.due("remove(" + f + ")", x.remove(f), false);
    }
    Check.due("remove(0)", x.remove(0), true);
    Check.due("remove(0), which is gone", x.remove(0), false);
    Check.due("count(0)", x.count(0), 1);
    Check.due("count(1)", x.count(1), 3);
    Check.due("remove(0) without files", new GramFinder().remove(0), false);
  }

  /** .. NONE if there is none such. */
  private static void sizeOfNoneSuch() {
    GramFinder x = with("abc", "");
    Check.due("size(1)", x.size(1), 0);
    Check.due("size(2), the next to come", x.size(2), NONE);
    Check.due("size(-1)", x.size(-1), NONE);
    for (int f : Check.WILD) {
      Check.due("size(" + f + ")", x.size(f), NONE);
    }
    x.remove(1);
    Check.due("size(1), which is gone", x.size(1), NONE);
  }

  /** The BYTE at place i of FILE f; NONE if there is none such. */
  private static void byteAtOfNoneSuch() {
    GramFinder x = with("abc", "\u00ff", "");
    Check.due("byteAt(0, 2)", x.byteAt(0, 2), 'c');
    Check.due("byteAt(0, 3)", x.byteAt(0, 3), NONE);
    Check.due("byteAt(0, -1)", x.byteAt(0, -1), NONE);
    Check.due("byteAt(1, 0)", x.byteAt(1, 0), 255);
    Check.due("byteAt(1, 1)", x.byteAt(1, 1), NONE);
    Check.due("byteAt(2, 0)", x.byteAt(2, 0), NONE);
    Check.due("byteAt(3, 0)", x.byteAt(3, 0), NONE);
    Check.due("byteAt(-1, 0)", x.byteAt(-1, 0), NONE);
    for (int n : Check.WILD) {
      Check.due("byteAt(0, " + n + ")", x.byteAt(0, n), NONE);
      Check.due("byteAt(" + n + ", 0)", x.byteAt(n, 0), NONE);
    }
    x.remove(0);
    Check.due("byteAt(0, 0), which is gone", x.byteAt(0, 0), NONE);
  }

  /** The i-th FILE (from 0 on, by NUMBERS) that HAS a GRAM. */
  private static void postingByNumbers() {
    GramFinder x = new GramFinder();
    for (int f = 0; f < 40; f++) {
      Check.add(x, "abc");
    }
    for (int i = 0; i < 40; i++) {
      Check.due("posting(abc, " + i + ")", x.posting(Check.gram("abc"), i), i);
    }
    Check.due("posting(abc, 40)", x.posting(Check.gram("abc"), 40), NONE);
    x.remove(0);
    Check.add(x, "xabc");
    Check.due("posting(abc, 0)", x.posting(Check.gram("abc"), 0), 1);
    Check.due("posting(abc, 39)", x.posting(Check.gram("abc"), 39), 40);
    Check.due("posting(abc, 40)", x.posting(Check.gram("abc"), 40), NONE);
    Check.change(x, 20, "ab");
    Check.due("posting(abc, 19)", x.posting(Check.gram("abc"), 19), 21);
  }

  /** NONE if there is none such. */
  private static void postingOfNoneSuch() {
    GramFinder x = with("abc", "abcd");
    Check.due("posting(abc, 1)", x.posting(Check.gram("abc"), 1), 1);
    Check.due("posting(abc, 2)", x.posting(Check.gram("abc"), 2), NONE);
    Check.due("posting(abc, -1)", x.posting(Check.gram("abc"), -1), NONE);
    for (int i : Check.WILD) {
      Check.due("posting(abc, " + i + ")", x.posting(Check.gram("abc"), i), NONE);
    }
    Check.due("posting(abd, 0)", x.posting(Check.gram("abd"), 0), NONE);
  }

  /** .. (or no such GRAM). */
  private static void postingOfNoSuchGram() {
    GramFinder x = with("\u0000\u0000\u0000", "\u00ff\u00ff\u00ff", "abc");
    int abc = Check.gram("abc");
    Check.due("posting(-1, 0)", x.posting(-1, 0), NONE);
    for (int gram : Check.WILD) {
      Check.due("posting(" + gram + ", 0)", x.posting(gram, 0), NONE);
    }
    Check.due("posting(2^24 + abc, 0)", x.posting(abc + (1 << 24), 0), NONE);
    Check.due("posting(abc - 2^24, 0)", x.posting(abc - (1 << 24), 0), NONE);
    Check.due("posting(2^24 - 1, 0)", x.posting((1 << 24) - 1, 0), 1);
  }
}
