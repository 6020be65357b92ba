import java.nio.charset.StandardCharsets;

/** What the tests share: a count of the wrong answers, and calls with texts instead of numbers. */
final class Check {
  /** Numbers that are no index, no byte and no gram; a few would be one if they wrapped around, times two or more. */
  static final int[] WILD = {Integer.MIN_VALUE, Integer.MIN_VALUE + 1, -(1 << 30), -65536, -1000, -256, -40, -2, 1 << 24,
      1 << 25, 1 << 28, 1 << 29, 1 << 30, 3 << 29, Integer.MAX_VALUE - 1, Integer.MAX_VALUE};

  private static int wrong;
  private static int checked;

  private Check() {}

  static void due(String call, long got, long want) {
    checked++;
    if (got != want) {
      wrong++;
      if (wrong <= 50) {
        System.out.println(call + " answered " + got + ", due is " + want);
      }
    }
  }

  static void due(String call, boolean got, boolean want) {
    due(call, got ? 1 : 0, want ? 1 : 0);
  }

  static int wrong() {
    return wrong;
  }

  static void finish() {
    System.out.println(checked + " answers checked, " + wrong + " wrong");
    System.exit(wrong == 0 ? 0 : 1);
  }

  /** Puts a text, as bytes of its characters 0 to 255, onto an empty tape. */
  static void write(GramFinder finder, String text) {
    finder.end(0);
    for (int[] numbers : numbers(text)) {
      finder.feed(numbers[0], numbers[1], numbers[2], numbers[3], numbers[4]);
    }
    finder.end(text.length());
  }

  static int[][] numbers(String text) {
    byte[] bytes = text.getBytes(StandardCharsets.ISO_8859_1);
    int[][] rows = new int[(bytes.length + 19) / 20][5];
    for (int i = 0; i < bytes.length; i++) {
      rows[i / 20][i % 20 / 4] |= (bytes[i] & 255) << 24 - i % 4 * 8;
    }
    return rows;
  }

  static int add(GramFinder finder, String text) {
    write(finder, text);
    return finder.add();
  }

  static int change(GramFinder finder, int f, String text) {
    write(finder, text);
    return finder.change(f);
  }

  static int search(GramFinder finder, String regex, boolean fold) {
    write(finder, regex);
    return finder.search(fold);
  }

  /** A search of which the fault and its place are due. */
  static void dueFault(GramFinder finder, String regex, int kind, int place) {
    due("search(" + regex + ") with a fault", search(finder, regex, false), GramFinder.NONE);
    due("fault(0) of " + regex, finder.fault(0), kind);
    due("fault(1) of " + regex, finder.fault(1), place);
  }

  /** A search without a fault. */
  static void dueNoFault(GramFinder finder, String regex, int size) {
    due("search(" + regex + ") is one", search(finder, regex, false) >= 0, true);
    due("fault(0) of " + regex, finder.fault(0), 0);
    due("fault(1) of " + regex, finder.fault(1), GramFinder.NONE);
    due("count(9) of " + regex, finder.count(9), size);
  }

  /** What is told of the texts, as one text: each in < >. With as few calls as may be: an object has 512. */
  static String textsOf(GramFinder finder, int what) {
    StringBuilder all = new StringBuilder();
    int many = finder.texts(what);
    for (int i = 0; i < many; i++) {
      all.append('<');
      int k = 0;
      for (int sign = finder.text(what, i, 0); sign != GramFinder.NONE; sign = finder.text(what, i, k)) {
        all.append((char) sign);
        k++;
      }
      all.append('>');
    }
    return all.toString();
  }

  /** What is told of the choices, as one text: each in < >, its grams as three characters. */
  static String choicesOf(GramFinder finder) {
    StringBuilder all = new StringBuilder();
    int many = finder.choice(GramFinder.NONE);
    for (int i = 0; i < many; i++) {
      all.append('<');
      int grams = finder.choice(i);
      for (int k = 0; k < grams; k++) {
        int gram = finder.gram(i, k);
        all.append(k == 0 ? "" : " ").append((char) (gram >> 16)).append((char) (gram >> 8 & 255));
        all.append((char) (gram & 255));
      }
      all.append('>');
    }
    return all.toString();
  }

  static void dueText(String call, String got, String want) {
    checked++;
    if (!got.equals(want)) {
      wrong++;
      System.out.println(call + " answered " + got + ", due is " + want);
    }
  }

  static int gram(String three) {
    return three.charAt(0) << 16 | three.charAt(1) << 8 | three.charAt(2);
  }
}
