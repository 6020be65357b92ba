import java.io.IOException;
import java.lang.reflect.Method;
import java.lang.reflect.Modifier;
import java.nio.file.Files;
import java.nio.file.Path;
import java.util.HashMap;
import java.util.Map;
import java.util.Set;
import java.util.TreeSet;
import java.util.regex.Matcher;
import java.util.regex.Pattern;

/** README.md tells each call of the class, with the answers that it gives, and how its tests are run. */
public final class ReadmeTest {
  private static final String MAKING = "GramFinder finder = new GramFinder();";
  private static final Pattern CALL = Pattern.compile(
      "(?:(?:int|boolean) (?<name>\\w+) = )?finder\\.(?<call>\\w+)\\((?<given>[^()]*)\\);\\s*// (?<answer>-?\\w+)(?::.*)?");
  private static final Pattern ROW = Pattern.compile("(?m)^\\| `(int|boolean) (\\w+)\\(([^)]*)\\)` \\|(.*)\\|(.*)\\|$");

  private final Map<String, Object> named = new HashMap<>();
  private final Set<String> called = new TreeSet<>();
  private final Set<String> refused = new TreeSet<>();
  private GramFinder finder;

  private ReadmeTest() {}

  public static void main(String[] args) throws IOException, ReflectiveOperationException {
    String page = Files.readString(Path.of("README.md"));
    rows(page);
    ReadmeTest test = new ReadmeTest();
    Matcher blocks = Pattern.compile("(?s)```java\n(.*?)```").matcher(page);
    while (blocks.find()) {
      for (String line : blocks.group(1).split("\n")) {
        test.follow(line);
      }
    }
    Set<String> face = face().keySet();
    Check.dueText("the calls that the page makes", test.called.toString(), face.toString());
    Check.dueText("those that are refused", test.refused.toString(),
        "[byteAt, change, choice, count, end, posting, remove, search, size, texts]");
    Check.due("the page tells how the tests are run", page.contains("bash .ci/run"), true);
    Check.due(".ci/run is there to be run", Files.isExecutable(Path.of(".ci/run")), true);
    Check.finish();
  }

  private static Map<String, Method> face() {
    Map<String, Method> face = new java.util.TreeMap<>();
    for (Method method : GramFinder.class.getDeclaredMethods()) {
      if (Modifier.isPublic(method.getModifiers())) {
        face.put(method.getName(), method);
      }
    }
    return face;
  }

  /** Each call has a row: its face, what it answers, and what it answers if it is refused. */
  private static void rows(String page) {
    Map<String, Method> face = face();
    Matcher rows = ROW.matcher(page);
    Set<String> seen = new TreeSet<>();
    while (rows.find()) {
      Method method = face.get(rows.group(2));
      Check.due("a call is named " + rows.group(2), method != null, true);
      Check.due(rows.group(2) + " has one row", seen.add(rows.group(2)), true);
      if (method != null) {
        Check.dueText("what " + rows.group(2) + " is given", rows.group(3).replaceAll(" \\w+(, )?", "$1"), given(method));
        Check.dueText("what " + rows.group(2) + " answers", rows.group(1), method.getReturnType().getName());
        boolean answers = method.getReturnType() == boolean.class;
        Check.due(rows.group(2) + " refused", rows.group(5).contains(answers ? "`false`" : "`NONE`"), true);
      }
    }
    Check.dueText("the calls that have a row", seen.toString(), face.keySet().toString());
  }

  private static String given(Method method) {
    StringBuilder given = new StringBuilder();
    for (Class<?> one : method.getParameterTypes()) {
      given.append(given.length() == 0 ? "" : ", ").append(one.getName());
    }
    return given.toString();
  }

  /** Makes the call of a line, and compares its answer with the one that stands behind it. */
  private void follow(String line) throws ReflectiveOperationException {
    if (line.equals(MAKING)) {
      finder = new GramFinder();
      named.clear();
      return;
    }
    Matcher call = CALL.matcher(line);
    Check.due("a call with its answer: " + line, call.matches(), true);
    Method method = call.matches() ? face().get(call.group("call")) : null;
    Check.due("one of the class: " + line, method != null, true);
    if (method == null) {
      return;
    }
    String[] words = call.group("given").isEmpty() ? new String[0] : call.group("given").split(", ");
    Object[] given = new Object[words.length];
    for (int i = 0; i < words.length; i++) {
      given[i] = value(words[i]);
    }
    Object got = method.invoke(finder, given);
    Object want = value(call.group("answer"));
    Check.dueText(line, got.toString(), want.toString());
    called.add(method.getName());
    if (want.equals(GramFinder.NONE) || want.equals(false)) {
      refused.add(method.getName());
    }
    if (call.group("name") != null) {
      named.put(call.group("name"), got);
    }
  }

  private Object value(String word) {
    if (named.containsKey(word)) {
      return named.get(word);
    }
    if (word.equals("true") || word.equals("false")) {
      return word.equals("true");
    }
    return word.endsWith("NONE") ? (Object) GramFinder.NONE : (Object) Integer.decode(word);
  }
}
