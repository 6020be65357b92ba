import java.util.Map;
import java.util.Random;

/** Runs of chance, always the same ones: each answer of the class is compared with that of the model. */
public final class ModelTest {
  private static final int NONE = GramFinder.NONE;
  private final Random random;
  private final StringBuilder story = new StringBuilder();
  private GramFinder finder = new GramFinder();
  private Model model = new Model();
  private String signs;

  private ModelTest(long seed) {
    random = new Random(seed);
  }

  public static void main(String[] args) {
    int runs = args.length > 0 ? Integer.parseInt(args[0]) : 800;
    long first = args.length > 1 ? Long.parseLong(args[1]) : 1;
    for (int i = 0; i < runs && Check.wrong() == 0; i++) {
      new ModelTest(first + i).run();
    }
    dueMet();
    Check.finish();
  }

  /** The runs prove something of these rules only if they met them. */
  private static void dueMet() {
    Map<String, Integer> met = Model.MET;
    for (String rule : new String[] {"8 texts at most, but one too long", "a text of more than 60 bytes",
        "an alternative of more than 8 texts", "both by the core of the first",
        "both by the core of the first, empty", "both by the core of the second",
        "both by the core of the second, empty", "both by the core of the second, empty, of as many",
        "both by the core of the second, of as many",
        "least of more than 24, with a core", "least of more than 24, without core", "more than 12 heads",
        "more than 12 heads of one byte", "more than 8 texts"}) {
      Check.due("the runs met: " + rule, met.getOrDefault(rule, 0) > 0, true);
    }
    System.out.println(met);
  }

  private void run() {
    String[] alphabets = {"ab", "abc", "abcdefgh", "abcdefghijklmnopqrstuvwxyz", "aAbB_1 -\n", "ab\n \t.", "xyz012"};
    signs = alphabets[random.nextInt(alphabets.length)];
    int calls = 60 + random.nextInt(60);
    for (int i = 0; i < calls && Check.wrong() == 0; i++) {
      act();
    }
    dueCounts();
    if (Check.wrong() > 0) {
      System.out.println(story);
    }
  }

  private void act() {
    int kind = random.nextInt(20);
    if (kind < 5) {
      write(someBytes());
      due("add()", finder.add(), model.add());
    } else if (kind < 6) {
      int f = random.nextInt(model.count(2) + 2) - 1;
      write(someBytes());
      due("change(" + f + ")", finder.change(f), model.change(f));
    } else if (kind < 7) {
      int f = random.nextInt(model.count(2) + 2) - 1;
      due("remove(" + f + ")", finder.remove(f) ? 1 : 0, model.remove(f) ? 1 : 0);
    } else if (kind < 8) {
      wildCall();
    } else {
      boolean fold = random.nextInt(4) == 0;
      String regex = RegexMaker.regex(random, signs.replaceAll("[\\n\\t.]", ""));
      write(regex);
      due("search(" + fold + ")", finder.search(fold), model.search(fold));
      dueOfSearch();
    }
  }

  private void write(String text) {
    due("end(0)", finder.end(0) ? 1 : 0, model.end(0) ? 1 : 0);
    for (int[] n : Check.numbers(text)) {
      due("feed", finder.feed(n[0], n[1], n[2], n[3], n[4]), model.feed(n));
    }
    due("end for " + text, finder.end(text.length()) ? 1 : 0, model.end(text.length()) ? 1 : 0);
  }

  private String someBytes() {
    StringBuilder bytes = new StringBuilder();
    int pieces = random.nextInt(6);
    for (int i = 0; i < pieces; i++) {
      if (random.nextInt(3) == 0) {
        bytes.append(RegexMaker.matching(random, signs));
      } else {
        int length = random.nextInt(random.nextInt(8) == 0 ? 60 : 8);
        for (int k = 0; k < length; k++) {
          bytes.append(random.nextInt(20) == 0 ? (char) random.nextInt(256)
              : signs.charAt(random.nextInt(signs.length())));
        }
      }
    }
    return bytes.length() > 400 ? bytes.substring(0, 400) : bytes.toString();
  }

  /** Calls with arguments of chance, within what is there and beyond. */
  private void wildCall() {
    int[] edges = {Integer.MIN_VALUE, -2, -1, 0, 1, 2, 39, 199, 200, 1000, 1 << 24, Integer.MAX_VALUE};
    int a = edges[random.nextInt(edges.length)];
    int b = edges[random.nextInt(edges.length)];
    due("end(" + a + ")", finder.end(a) ? 1 : 0, model.end(a) ? 1 : 0);
    due("feed", finder.feed(a, b, a, b, a), model.feed(a, b, a, b, a));
    due("change(" + a + ")", finder.change(a), model.change(a));
    due("remove(" + b + ")", finder.remove(b) ? 1 : 0, model.remove(b) ? 1 : 0);
    due("size", finder.size(a), model.size(a));
    due("byteAt", finder.byteAt(a, b), model.byteAt(a, b));
    due("posting", finder.posting(a, b), model.posting(a, b));
    due("fault", finder.fault(a), model.fault(a));
    due("hit", finder.hit(a, b), model.hit(a, b));
    due("opened", finder.opened(a), model.opened(a));
    due("choice", finder.choice(a), model.choice(a));
    due("gram", finder.gram(a, b), model.gram(a, b));
    due("texts", finder.texts(a), model.texts(a));
    due("text", finder.text(a, b, 0), model.text(a, b, 0));
    due("text", finder.text(0, a, b), model.text(0, a, b));
    due("text", finder.text(1, a, b), model.text(1, a, b));
    due("text", finder.text(2, a, b), model.text(2, a, b));
    due("count", finder.count(a), model.count(a));
    due("search", finder.search(false), model.search(false));
    dueOfSearch();
    dueCounts();
    dueFiles();
  }

  private void dueCounts() {
    for (int what = -1; what <= 10; what++) {
      due("count(" + what + ")", finder.count(what), model.count(what));
    }
  }

  private void dueFiles() {
    for (int f = -1; f <= model.count(2); f++) {
      due("size(" + f + ")", finder.size(f), model.size(f));
      for (int i = -1; i <= model.size(f); i++) {
        due("byteAt(" + f + ", " + i + ")", finder.byteAt(f, i), model.byteAt(f, i));
      }
    }
    for (int k = 0; k < 5; k++) {
      int gram = 0;
      for (int i = 0; i < 3; i++) {
        gram = gram << 8 | signs.charAt(random.nextInt(signs.length()));
      }
      for (int i = -1; i <= 40; i++) {
        due("posting(" + gram + ", " + i + ")", finder.posting(gram, i), model.posting(gram, i));
      }
    }
  }

  private void dueOfSearch() {
    for (int what = -1; what <= 2; what++) {
      due("fault(" + what + ")", finder.fault(what), model.fault(what));
    }
    for (int i = 0; i <= 40; i++) {
      due("opened(" + i + ")", finder.opened(i), model.opened(i));
      for (int what = -1; what <= 4; what++) {
        due("hit(" + i + ", " + what + ")", finder.hit(i, what), model.hit(i, what));
      }
    }
    for (int i = -1; i <= 24; i++) {
      due("choice(" + i + ")", finder.choice(i), model.choice(i));
      for (int k = -1; k <= model.choice(i); k++) {
        due("gram(" + i + ", " + k + ")", finder.gram(i, k), model.gram(i, k));
      }
    }
    for (int what = -1; what <= 3; what++) {
      due("texts(" + what + ")", finder.texts(what), model.texts(what));
      for (int i = -1; i <= model.texts(what); i++) {
        int k = -1;
        do {
          due("text(" + what + ", " + i + ", " + k + ")", finder.text(what, i, k), model.text(what, i, k));
          k++;
        } while (k == 0 || model.text(what, i, k - 1) != NONE);
      }
    }
    due("count(9)", finder.count(9), model.count(9));
  }

  private void due(String call, long got, long want) {
    if (got != want || call.startsWith("end for") || call.startsWith("add") || call.startsWith("search")
        || call.startsWith("change") || call.startsWith("remove")) {
      story.append(call).append(" -> ").append(want).append('\n');
    }
    Check.due(call, got, want);
  }
}
