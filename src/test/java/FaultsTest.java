/** Promises 10 and 11: the faults of a regex, their places, its size. */
public final class FaultsTest {
  private static final int NONE = GramFinder.NONE;
  private static final int FORM = 1;
  private static final int ORDER = 2;
  private static final int MUCH = 3;

  private FaultsTest() {}

  public static void main(String[] args) {
    goodForms();
    plainSigns();
    form();
    formOfBraces();
    formOfBrackets();
    order();
    much();
    muchParens();
    firstByPlace();
    size();
    length();
    whatStays();
    Check.finish();
  }

  private static void goodForms() {
    GramFinder x = new GramFinder();
    String[] good = {"", "|", "()", "(|)", "a|", "|a", "()*", "^*", "$+", "\\b?", "(a*)*", "a{0}", "a{00}", "a{20,20}",
        "a{3,}", "[a]", "[^a]", "[^^]", "[a^]", "[[]", "[(|*+?{}).$]", "[\\]\\-\\\\]", "[\\d]", "[^\\w\\s]",
        "[a-a]", "[\\t-\\n]", "[ -~]", "[a-cx-z]", "[\\n\\t]", "-,0 9~", "\\|\\*\\(\\[\\{\\^\\$\\.\\\\\\-\\ \\_\\~"};
    int[] sizes = {0, 1, 0, 1, 2, 2, 1, 2, 2, 2, 3, 0, 0, 20, 5, 1, 1, 1, 1, 1, 1, 1, 1, 1, 1, 1, 1, 1, 1, 6, 13};
    for (int i = 0; i < good.length; i++) {
      Check.dueNoFault(x, good[i], sizes[i]);
    }
  }

  /** Each byte alone, behind a backslash, and alone in brackets. */
  private static void plainSigns() {
    for (int half = 0; half < 256; half += 128) {
      for (int c = half; c < half + 128; c++) {
        GramFinder x = new GramFinder();
        String sign = "" + (char) c;
        boolean seen = c >= 32 && c <= 126;
        boolean letterOrDigit = c < 128 && Character.isLetterOrDigit(c);
        boolean plain = seen && "\\|*+?{}()[].^$".indexOf(c) < 0 || c == '.' || c == '^' || c == '$' || c == '|';
        boolean opens = c == '(' || c == '[' || c == '\\';
        dueEither(x, sign, plain, opens ? 1 : 0);
        dueEither(x, "\\" + sign, "ntdwsb".indexOf(c) >= 0 || seen && !letterOrDigit, 1);
        boolean one = seen && "\\]-^".indexOf(c) < 0;
        dueEither(x, "[" + sign + "]", one, c == '\\' ? 3 : c == '^' ? 2 : 1);
        dueEither(x, "[\\" + sign + "]", "ntdws".indexOf(c) >= 0 || seen && !letterOrDigit, 2);
        dueEither(x, "[\\t-" + sign + "]", seen && "\\]-".indexOf(c) < 0, c == '\\' ? 6 : 4);
      }
    }
  }

  private static void dueEither(GramFinder x, String regex, boolean good, int place) {
    if (good) {
      Check.due("no fault in " + regex, Check.search(x, regex, false) >= 0, true);
    } else {
      Check.dueFault(x, regex, FORM, place);
    }
  }

  private static void form() {
    GramFinder x = new GramFinder();
    Check.dueFault(x, "*", FORM, 0);
    Check.dueFault(x, "a**", FORM, 2);
    Check.dueFault(x, "a+?", FORM, 2);
    Check.dueFault(x, "a{2}{3}", FORM, 4);
    Check.dueFault(x, "a|*", FORM, 2);
    Check.dueFault(x, "(+a)", FORM, 1);
    Check.dueFault(x, "(a", FORM, 2);
    Check.dueFault(x, "((a)", FORM, 4);
    Check.dueFault(x, "(", FORM, 1);
    Check.dueFault(x, "a)", FORM, 1);
    Check.dueFault(x, "()a)b", FORM, 3);
    Check.dueFault(x, "a}", FORM, 1);
    Check.dueFault(x, "a]", FORM, 1);
    Check.dueFault(x, "ab\\", FORM, 3);
    Check.dueFault(x, "\\q", FORM, 1);
    Check.dueFault(x, "\\1", FORM, 1);
    Check.dueFault(x, "a\nb", FORM, 1);
    Check.dueFault(x, "ab\u00e9", FORM, 2);
  }

  private static void formOfBraces() {
    GramFinder x = new GramFinder();
    Check.dueFault(x, "{2}", FORM, 0);
    Check.dueFault(x, "a{", FORM, 2);
    Check.dueFault(x, "a{}", FORM, 2);
    Check.dueFault(x, "a{,2}", FORM, 2);
    Check.dueFault(x, "a{x}", FORM, 2);
    Check.dueFault(x, "a{1", FORM, 3);
    Check.dueFault(x, "a{12", FORM, 4);
    Check.dueFault(x, "a{1x", FORM, 3);
    Check.dueFault(x, "a{1,", FORM, 4);
    Check.dueFault(x, "a{1,x}", FORM, 4);
    Check.dueFault(x, "a{1,2", FORM, 5);
    Check.dueFault(x, "a{1,2,", FORM, 5);
    Check.dueFault(x, "a{1,2,3}", FORM, 5);
    Check.dueFault(x, "a{1, 2}", FORM, 4);
    Check.dueFault(x, "a{123}", FORM, 4);
    Check.dueFault(x, "a{200}", FORM, 4);
    Check.dueFault(x, "a{001}", FORM, 4);
    Check.dueFault(x, "a{1,123}", FORM, 6);
  }

  private static void formOfBrackets() {
    GramFinder x = new GramFinder();
    Check.dueFault(x, "[", FORM, 1);
    Check.dueFault(x, "[]", FORM, 1);
    Check.dueFault(x, "[]a]", FORM, 1);
    Check.dueFault(x, "[^", FORM, 2);
    Check.dueFault(x, "[^]", FORM, 2);
    Check.dueFault(x, "[-a]", FORM, 1);
    Check.dueFault(x, "[^-a]", FORM, 2);
    Check.dueFault(x, "[a", FORM, 2);
    Check.dueFault(x, "[a-", FORM, 3);
    Check.dueFault(x, "[a-]", FORM, 3);
    Check.dueFault(x, "[a--]", FORM, 3);
    Check.dueFault(x, "[a-b-c]", FORM, 4);
    Check.dueFault(x, "[\\d-a]", FORM, 3);
    Check.dueFault(x, "[a-\\d]", FORM, 4);
    Check.dueFault(x, "[a-\\b]", FORM, 4);
    Check.dueFault(x, "[a-\\", FORM, 4);
    Check.dueFault(x, "[\\b]", FORM, 2);
    Check.dueFault(x, "[\\", FORM, 2);
    Check.dueFault(x, "[\\d", FORM, 3);
    Check.dueFault(x, "[a\n]", FORM, 2);
  }

  private static void order() {
    GramFinder x = new GramFinder();
    Check.dueFault(x, "[z-a]", ORDER, 3);
    Check.dueFault(x, "[^b-a]", ORDER, 4);
    Check.dueFault(x, "[a-z9-0]", ORDER, 6);
    Check.dueFault(x, "[\\]-\\-]", ORDER, 4);
    Check.dueFault(x, "[a-\\n]", ORDER, 3);
    Check.dueFault(x, "[\\n-\\t]", ORDER, 4);
    Check.dueFault(x, "a{3,2}", ORDER, 4);
    Check.dueFault(x, "a{12,11}", ORDER, 5);
    Check.dueFault(x, "a{1,00}", ORDER, 4);
    Check.dueNoFault(x, "a{2,02}", 2);
    Check.dueNoFault(x, "[a-a]", 1);
  }

  private static void much() {
    GramFinder x = new GramFinder();
    Check.dueFault(x, "a{21}", MUCH, 2);
    Check.dueFault(x, "a{99,}", MUCH, 2);
    Check.dueFault(x, "a{1,21}", MUCH, 4);
    Check.dueFault(x, "a{20,21}", MUCH, 5);
    Check.dueFault(x, "a{210}", MUCH, 2);
    Check.dueFault(x, "a{3,999}", MUCH, 4);
    Check.dueFault(x, "a{30", MUCH, 2);
    Check.dueNoFault(x, "a{20}", 20);
    Check.dueNoFault(x, "a{20,}", 22);
    Check.dueNoFault(x, "a{0,20}", 40);
  }

  private static void muchParens() {
    GramFinder x = new GramFinder();
    Check.dueNoFault(x, "((((((((((a))))))))))", 1);
    Check.dueFault(x, "(((((((((((a)))))))))))", MUCH, 10);
    Check.dueFault(x, "(((((((((((", MUCH, 10);
    Check.dueFault(x, "((((((((((", FORM, 10);
    Check.dueNoFault(x, "()()()()()()()()()()()()", 0);
    Check.dueNoFault(x, "(".repeat(10) + "\\([(]" + ")".repeat(10), 2);
    Check.dueFault(x, "a" + "(".repeat(10) + "b)(c)" + ")".repeat(9) + "(", FORM, 26);
    Check.dueFault(x, "a" + "(".repeat(10) + "b(", MUCH, 12);
  }

  private static void firstByPlace() {
    GramFinder x = new GramFinder();
    Check.dueFault(x, "[b-a", ORDER, 3);
    Check.dueFault(x, "[b-a\n", ORDER, 3);
    Check.dueFault(x, "a{3,2x", ORDER, 4);
    Check.dueFault(x, "a{15,123}", ORDER, 5);
    Check.dueFault(x, "a{21x", MUCH, 2);
    Check.dueFault(x, "a{25,30}", MUCH, 2);
    Check.dueFault(x, "a{3,2}[b-a]", ORDER, 4);
    Check.dueFault(x, "[b-a]a{3,2}", ORDER, 3);
    Check.dueFault(x, "a{21}[b-a]", MUCH, 2);
    Check.dueFault(x, "*a{21}", FORM, 0);
    Check.dueFault(x, "(a{20}){20}*", FORM, 11);
    Check.dueFault(x, "(a{20}){20}(", FORM, 12);
  }

  private static void size() {
    GramFinder x = new GramFinder();
    Check.dueNoFault(x, "abc", 3);
    Check.dueNoFault(x, "a|bc|", 5);
    Check.dueNoFault(x, "(a|b)c", 4);
    Check.dueNoFault(x, "(ab)*", 3);
    Check.dueNoFault(x, "(ab)+", 3);
    Check.dueNoFault(x, "(ab)?", 3);
    Check.dueNoFault(x, "(ab){3}", 6);
    Check.dueNoFault(x, "(ab){0}", 0);
    Check.dueNoFault(x, "(ab){3,}", 9);
    Check.dueNoFault(x, "(ab){0,}", 3);
    Check.dueNoFault(x, "(ab){2,5}", 13);
    Check.dueNoFault(x, "(ab){0,1}", 3);
    Check.dueNoFault(x, "(ab){0,0}", 0);
    Check.dueNoFault(x, ".^$\\b\\d[a-z]", 6);
    Check.dueNoFault(x, "(a{20}){10}", 200);
    Check.dueNoFault(x, "(a{20}){8,}", 181);
    Check.dueFault(x, "(a{20}){9,}", MUCH, 11);
    Check.dueFault(x, "(a{20}){10}b", MUCH, 12);
    Check.dueFault(x, "(a{20}){11}", MUCH, 11);
    Check.dueNoFault(x, "(".repeat(8) + "a{20}" + "){20}".repeat(7) + "){0}", 0);
    Check.dueNoFault(x, "(".repeat(10) + "){20}".repeat(10), 0);
    Check.dueFault(x, "(".repeat(10) + "a{20}" + "){20}".repeat(10), MUCH, 65);
    Check.dueFault(x, "(".repeat(10) + "a{20}" + "){20}".repeat(9) + "){0}*", FORM, 64);
  }

  private static void length() {
    GramFinder x = new GramFinder();
    String eighty = "x".repeat(80);
    Check.dueNoFault(x, eighty, 80);
    Check.dueFault(x, eighty + "x", MUCH, 80);
    Check.dueFault(x, "*" + eighty, MUCH, 80);
    Check.dueFault(x, "(".repeat(200), MUCH, 80);
    Check.dueFault(x, "x".repeat(79) + "(", FORM, 80);
  }

  private static void whatStays() {
    GramFinder x = new GramFinder();
    Check.add(x, "abcd\nabc");
    Check.due("search(abcd?)", Check.search(x, "abcd?", false), 1);
    Check.due("search(a(b)", Check.search(x, "a(b", false), NONE);
    Check.due("the tape is empty then", x.count(5), 0);
    Check.due("fault(0)", x.fault(0), FORM);
    Check.due("fault(1)", x.fault(1), 3);
    Check.due("fault(2)", x.fault(2), NONE);
    Check.due("fault(-1)", x.fault(-1), NONE);
    Check.due("hit(0, 2) stays", x.hit(0, 2), 4);
    Check.due("opened(0) stays", x.opened(0), 0);
    Check.dueText("choices stay", Check.choicesOf(x), "<abc>");
    Check.dueText("texts stay", Check.textsOf(x, 0), "<abc><abcd>");
    Check.due("count(6) stays", x.count(6), 1);
    Check.due("count(7) stays", x.count(7), 1);
    Check.due("count(8) stays", x.count(8), 1);
    Check.due("count(9) stays", x.count(9), 5);
    Check.due("search(b)", Check.search(x, "b", false), 1);
    Check.due("fault(0) without one", x.fault(0), 0);
    Check.due("fault(1) without one", x.fault(1), NONE);
  }
}
