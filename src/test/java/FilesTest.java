/** Promises 1 to 9 and 18: the tape, the files, their grams, the counts. */
public final class FilesTest {
  private static final int NONE = GramFinder.NONE;
  private static final int[] WILD = {Integer.MIN_VALUE, -1000, -2, -1, Integer.MAX_VALUE};

  private FilesTest() {}

  public static void main(String[] args) {
    newObject();
    feed();
    end();
    add();
    addAtMostForty();
    addAtMostTwoHundred();
    togetherAtMost();
    change();
    remove();
    sizeAndByteAt();
    posting();
    count();
    Check.finish();
  }

  private static void newObject() {
    GramFinder x = new GramFinder();
    Check.due("NONE", NONE, -1);
    for (int what = 0; what <= 9; what++) {
      Check.due("new: count(" + what + ")", x.count(what), 0);
    }
    Check.due("new: size(0)", x.size(0), NONE);
    Check.due("new: byteAt(0, 0)", x.byteAt(0, 0), NONE);
    Check.due("new: posting(0, 0)", x.posting(0, 0), NONE);
    Check.due("new: remove(0)", x.remove(0), false);
    Check.due("new: change(0)", x.change(0), NONE);
    Check.due("new: fault(0)", x.fault(0), 0);
    Check.due("new: fault(1)", x.fault(1), NONE);
    Check.due("new: fault(2)", x.fault(2), NONE);
    Check.due("new: hit(0, 0)", x.hit(0, 0), NONE);
    Check.due("new: opened(0)", x.opened(0), NONE);
    for (int i = -1; i <= 1; i++) {
      Check.due("new: choice(" + i + ")", x.choice(i), NONE);
      Check.due("new: gram(" + i + ", 0)", x.gram(i, 0), NONE);
      Check.due("new: text(" + i + ", 0, 0)", x.text(i, 0, 0), NONE);
    }
    for (int what = -1; what <= 3; what++) {
      Check.due("new: texts(" + what + ")", x.texts(what), NONE);
    }
    Check.due("new: end(0)", x.end(0), true);
    Check.due("new: end(1)", x.end(1), false);
  }

  private static void feed() {
    GramFinder x = new GramFinder();
    Check.due("feed", x.feed(0x00FF0180, 0x7F0A0900, -1, Integer.MIN_VALUE, 5), 20);
    x.add();
    int[] want = {0, 255, 1, 128, 127, 10, 9, 0, 255, 255, 255, 255, 128, 0, 0, 0, 0, 0, 0, 5};
    for (int i = 0; i < 20; i++) {
      Check.due("byteAt(0, " + i + ")", x.byteAt(0, i), want[i]);
    }
    for (int i = 1; i <= 50; i++) {
      Check.due("feed number " + i, x.feed(i, i, i, i, i), 20 * i);
    }
    Check.due("feed beyond 1,000", x.feed(7, 7, 7, 7, 7), NONE);
    Check.due("the tape stays", x.count(5), 1000);
    Check.due("end(981)", x.end(981), true);
    Check.due("feed beyond 1,000 from 981", x.feed(7, 7, 7, 7, 7), NONE);
    Check.due("the tape stays", x.count(5), 981);
    Check.due("end(980)", x.end(980), true);
    Check.due("feed from 980", x.feed(7, 7, 7, 7, 7), 1000);
    Check.due("add", x.add(), 1);
    Check.due("byteAt(1, 979)", x.byteAt(1, 979), 49);
    Check.due("byteAt(1, 983)", x.byteAt(1, 983), 7);
    Check.due("byteAt(1, 999)", x.byteAt(1, 999), 7);
    Check.due("byteAt(1, 1000)", x.byteAt(1, 1000), NONE);
  }

  private static void end() {
    GramFinder x = new GramFinder();
    x.feed(0x61626364, 0x65666768, 0, 0, 0);
    Check.due("end(21)", x.end(21), false);
    for (int n : WILD) {
      Check.due("end(" + n + ")", x.end(n), false);
    }
    Check.due("refused, the tape stays", x.count(5), 20);
    Check.due("end(20)", x.end(20), true);
    Check.due("all stay", x.count(5), 20);
    Check.due("end(3)", x.end(3), true);
    Check.due("end(4)", x.end(4), false);
    Check.due("three stay", x.count(5), 3);
    Check.due("feed behind them", x.feed(0x7A000000, 0, 0, 0, 0), 23);
    x.end(4);
    x.add();
    String want = "abcz";
    for (int i = 0; i < 4; i++) {
      Check.due("byteAt(0, " + i + ")", x.byteAt(0, i), want.charAt(i));
    }
    x.feed(0, 0, 0, 0, 0);
    Check.due("end(0)", x.end(0), true);
    Check.due("none stays", x.count(5), 0);
  }

  private static void add() {
    GramFinder x = new GramFinder();
    Check.due("add of nothing", x.add(), 0);
    Check.due("size(0)", x.size(0), 0);
    Check.due("byteAt(0, 0)", x.byteAt(0, 0), NONE);
    Check.due("add", Check.add(x, "abc"), 1);
    Check.due("the tape is empty then", x.count(5), 0);
    Check.due("size(1)", x.size(1), 3);
    Check.due("remove(1)", x.remove(1), true);
    Check.due("no number is given again", Check.add(x, "d"), 2);
    Check.write(x, "later");
    Check.due("the tape is not the file", x.byteAt(2, 0), 'd');
  }

  private static void addAtMostForty() {
    GramFinder x = new GramFinder();
    for (int i = 0; i < 40; i++) {
      Check.due("add number " + i, Check.add(x, "f" + i), i);
    }
    Check.write(x, "more");
    Check.due("a forty-first", x.add(), NONE);
    Check.due("refused, the tape stays", x.count(5), 4);
    Check.due("count(0)", x.count(0), 40);
    Check.due("count(2)", x.count(2), 40);
    Check.due("remove(17)", x.remove(17), true);
    Check.due("then there is room", x.add(), 40);
    Check.due("size(40)", x.size(40), 4);
    Check.due("and none again", x.add(), NONE);
  }

  private static void addAtMostTwoHundred() {
    GramFinder x = new GramFinder();
    for (int i = 0; i < 200; i++) {
      Check.due("add number " + i, x.add(), i);
      Check.due("remove(" + i + ")", x.remove(i), true);
    }
    Check.write(x, "ab");
    Check.due("number 200", x.add(), NONE);
    Check.due("refused, the tape stays", x.count(5), 2);
    Check.due("count(0)", x.count(0), 0);
    Check.due("count(2)", x.count(2), 200);
    Check.due("size(200)", x.size(200), NONE);
    Check.due("change(199)", x.change(199), NONE);
  }

  /** No 512 calls bring 16,000 bytes together; what the document says of them is looked at all the same. */
  private static void togetherAtMost() {
    GramFinder x = new GramFinder();
    for (int f = 0; f < 16; f++) {
      for (int i = 0; i < 50; i++) {
        x.feed(f, f, f, f, f);
      }
      Check.due("add of 1,000", x.add(), f);
    }
    Check.due("count(1)", x.count(1), 16000);
    Check.due("add of nothing", x.add(), 16);
    Check.write(x, "a");
    Check.due("add of one more", x.add(), NONE);
    Check.due("change of a file without bytes", x.change(16), NONE);
    Check.due("refused, the tape stays", x.count(5), 1);
    Check.due("change(3)", x.change(3), 1);
    Check.due("count(1)", x.count(1), 15001);
    for (int i = 0; i < 50; i++) {
      x.feed(9, 9, 9, 9, 9);
    }
    Check.due("add of 1,000", x.add(), NONE);
    Check.due("end(999)", x.end(999), true);
    Check.due("add of 999", x.add(), 17);
    Check.due("count(1)", x.count(1), 16000);
    Check.due("change(0) with as many", Check.change(x, 0, new String(new char[1000])), 1000);
  }

  private static void change() {
    GramFinder x = new GramFinder();
    Check.add(x, "abcd");
    Check.add(x, "xyz");
    Check.due("change(0)", Check.change(x, 0, "qrstuv"), 6);
    Check.due("the tape is empty then", x.count(5), 0);
    Check.due("size(0)", x.size(0), 6);
    Check.due("byteAt(0, 5)", x.byteAt(0, 5), 'v');
    Check.due("the grams it had", x.posting(Check.gram("abc"), 0), NONE);
    Check.due("the grams it has", x.posting(Check.gram("tuv"), 0), 0);
    Check.due("count(1)", x.count(1), 9);
    Check.due("count(2)", x.count(2), 2);
    Check.due("change(1) to nothing", x.change(1), 0);
    Check.due("size(1)", x.size(1), 0);
    Check.write(x, "zz");
    Check.due("change(2)", x.change(2), NONE);
    for (int f : WILD) {
      Check.due("change(" + f + ")", x.change(f), NONE);
    }
    Check.due("refused, the tape stays", x.count(5), 2);
    x.remove(1);
    Check.due("change of what is gone", x.change(1), NONE);
    Check.due("count(0)", x.count(0), 1);
  }

  private static void remove() {
    GramFinder x = new GramFinder();
    Check.add(x, "abc");
    Check.add(x, "abcd");
    Check.write(x, "tape");
    Check.due("remove(2)", x.remove(2), false);
    for (int f : WILD) {
      Check.due("remove(" + f + ")", x.remove(f), false);
    }
    Check.due("refused: count(0)", x.count(0), 2);
    Check.due("remove(0)", x.remove(0), true);
    Check.due("remove(0) again", x.remove(0), false);
    Check.due("size(0)", x.size(0), NONE);
    Check.due("byteAt(0, 0)", x.byteAt(0, 0), NONE);
    Check.due("the other one stays", x.size(1), 4);
    Check.due("posting", x.posting(Check.gram("abc"), 0), 1);
    Check.due("count(0)", x.count(0), 1);
    Check.due("count(1)", x.count(1), 4);
    Check.due("count(2)", x.count(2), 2);
    Check.due("the tape stays", x.count(5), 4);
  }

  private static void sizeAndByteAt() {
    GramFinder x = new GramFinder();
    Check.add(x, "a\u0000\u00ff");
    Check.due("size(0)", x.size(0), 3);
    Check.due("byteAt(0, 0)", x.byteAt(0, 0), 'a');
    Check.due("byteAt(0, 1)", x.byteAt(0, 1), 0);
    Check.due("byteAt(0, 2)", x.byteAt(0, 2), 255);
    Check.due("byteAt(0, 3)", x.byteAt(0, 3), NONE);
    Check.due("size(1)", x.size(1), NONE);
    for (int n : WILD) {
      Check.due("size(" + n + ")", x.size(n), NONE);
      Check.due("byteAt(0, " + n + ")", x.byteAt(0, n), NONE);
      Check.due("byteAt(" + n + ", 0)", x.byteAt(n, 0), NONE);
    }
  }

  private static void posting() {
    GramFinder x = new GramFinder();
    Check.add(x, "aaaa");
    Check.add(x, "aaab");
    Check.add(x, "aa");
    Check.add(x, "baaa");
    Check.add(x, "\u00ff\u00ff\u00ff\u0000\u0000\u0000");
    int aaa = Check.gram("aaa");
    int[] want = {0, 1, 3, NONE};
    for (int i = 0; i < want.length; i++) {
      Check.due("posting(aaa, " + i + ")", x.posting(aaa, i), want[i]);
    }
    Check.due("posting(aab, 0)", x.posting(Check.gram("aab"), 0), 1);
    Check.due("posting(aba, 0)", x.posting(Check.gram("aba"), 0), NONE);
    Check.due("posting(255 255 255, 0)", x.posting(0xFFFFFF, 0), 4);
    Check.due("posting(0 0 0, 0)", x.posting(0, 0), 4);
    Check.due("posting(255 0 0, 0)", x.posting(0xFF0000, 0), 4);
    Check.due("no such gram", x.posting(1 << 24, 0), NONE);
    for (int n : WILD) {
      Check.due("posting(" + n + ", 0)", x.posting(n, 0), NONE);
      Check.due("posting(aaa, " + n + ")", x.posting(aaa, n), NONE);
    }
    x.remove(1);
    Check.due("posting(aaa, 1) without file 1", x.posting(aaa, 1), 3);
    Check.change(x, 2, "xaaa");
    Check.due("posting(aaa, 1) with file 2", x.posting(aaa, 1), 2);
    Check.due("posting(aaa, 2) with file 2", x.posting(aaa, 2), 3);
  }

  private static void count() {
    GramFinder x = new GramFinder();
    Check.add(x, "abcabc");
    Check.add(x, "bcab");
    Check.add(x, "zz");
    Check.due("count(0)", x.count(0), 3);
    Check.due("count(1)", x.count(1), 12);
    Check.due("count(2)", x.count(2), 3);
    Check.due("count(3): abc bca cab", x.count(3), 3);
    Check.due("count(4): three and two", x.count(4), 5);
    Check.search(x, "abc", false);
    Check.search(x, "bca|zz", false);
    Check.search(x, "(", false);
    Check.due("count(6): one with a fault is none", x.count(6), 2);
    Check.due("count(7)", x.count(7), 1 + 3);
    Check.due("count(8)", x.count(8), 1 + 3);
    Check.due("count(9)", x.count(9), 6);
    x.remove(0);
    Check.due("count(3) without file 0", x.count(3), 2);
    Check.due("count(4) without file 0", x.count(4), 2);
    Check.due("count(7) stays", x.count(7), 4);
    Check.due("count(8) stays", x.count(8), 4);
    x.remove(1);
    x.remove(2);
    Check.due("count(3) without files", x.count(3), 0);
    Check.due("count(4) without files", x.count(4), 0);
    x.feed(1, 2, 3, 4, 5);
    Check.due("count(5)", x.count(5), 20);
    for (int what : WILD) {
      Check.due("count(" + what + ")", x.count(what), NONE);
    }
    Check.due("count(10)", x.count(10), NONE);
  }
}
