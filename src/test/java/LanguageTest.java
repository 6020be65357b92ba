import java.io.IOException;
import java.lang.reflect.Field;
import java.lang.reflect.Method;
import java.lang.reflect.Modifier;
import java.nio.file.Files;
import java.nio.file.Path;
import java.util.Set;
import java.util.TreeSet;
import java.util.regex.Matcher;
import java.util.regex.Pattern;

/** Those rules of LANGUAGE.md that can be seen in the source's words and in the class's members. */
public final class LanguageTest {
  private static final Set<String> FACE = Set.of("feed", "end", "add", "change", "remove", "size", "byteAt", "posting",
      "search", "fault", "hit", "opened", "choice", "gram", "texts", "text", "count");
  private static final Set<String> CALLED = Set.of("Arrays.copyOf", "Arrays.fill", "Math.max", "Math.min",
      "System.arraycopy", "Long.numberOfTrailingZeros");

  private LanguageTest() {}

  public static void main(String[] args) throws IOException {
    String source = Files.readString(Path.of("src/main/java/GramFinder.java"));
    String bare = source.replaceAll("(?s)/\\*.*?\\*/", "").replaceAll("//[^\n]*", "");
    String code = bare.replaceAll("'(\\\\.|[^'\\\\])'", "0");
    face();
    inside();
    words(code);
    library(source, code);
    methods(code);
    Check.finish();
  }

  /** Rule 1. */
  private static void face() {
    Set<String> seen = new TreeSet<>();
    for (Method method : GramFinder.class.getDeclaredMethods()) {
      boolean isPublic = Modifier.isPublic(method.getModifiers());
      boolean isPrivate = Modifier.isPrivate(method.getModifiers());
      Check.due(method + " is public or private", isPublic || isPrivate, true);
      Check.due(method + " is public if it is of the face", isPublic, FACE.contains(method.getName()));
      if (isPublic) {
        seen.add(method.getName());
      }
    }
    Check.due("the face's methods", seen.size(), FACE.size());
    for (Field field : GramFinder.class.getDeclaredFields()) {
      Check.due(field + " is private", Modifier.isPrivate(field.getModifiers()), !field.getName().equals("NONE"));
    }
    Check.due("constructors", GramFinder.class.getConstructors().length, 1);
    Check.due("GramFinder is final", Modifier.isFinal(GramFinder.class.getModifiers()), true);
  }

  /** Rules 1, 2, 5 and 11, of the classes inside. */
  private static void inside() {
    Class<?>[] classes = GramFinder.class.getDeclaredClasses();
    Check.due("classes, at most twelve", classes.length + 1 <= 12, true);
    dueFields(GramFinder.class);
    for (Class<?> one : classes) {
      Check.due(one + " is static", Modifier.isStatic(one.getModifiers()), true);
      Check.due(one + " is not public", Modifier.isPublic(one.getModifiers()), false);
      dueFields(one);
      for (Method method : one.getDeclaredMethods()) {
        Check.due(method + " has a name of its own", FACE.contains(method.getName()), false);
      }
    }
  }

  private static void dueFields(Class<?> one) {
    int many = 0;
    for (Field field : one.getDeclaredFields()) {
      boolean isStatic = Modifier.isStatic(field.getModifiers());
      many += isStatic ? 0 : 1;
      Check.due(field + " is final if static", !isStatic || Modifier.isFinal(field.getModifiers()), true);
    }
    Check.due(one + " has at most twenty fields", many <= 20, true);
  }

  /** Rules 2, 3, 6 and 13. */
  private static void words(String code) {
    String[] banned = {"throw", "throws", "try", "catch", "synchronized", "assert", "instanceof", "->", "::", "var",
        "equals", "hashCode", "toString", "float", "double", "Random", "Thread", "nanoTime", "currentTimeMillis",
        "transient", "volatile", "native", "interface", "enum", "record"};
    for (String word : banned) {
      String pattern = word.matches("\\w+") ? "\\b" + word + "\\b" : Pattern.quote(word);
      Check.due("the source has " + word, Pattern.compile(pattern).matcher(code).find(), false);
    }
    Check.due("the source is of signs 10 and 32 to 126", code.matches("[\n -~]*"), true);
    Check.due("the source has a package line", code.contains("package "), false);
  }

  /** Rule 4. */
  private static void library(String source, String code) {
    Matcher imports = Pattern.compile("(?m)^import (.*);$").matcher(source);
    while (imports.find()) {
      Check.dueText("an import", imports.group(1), "java.util.Arrays");
    }
    Matcher calls = Pattern.compile("\\b(?:Arrays|Math|System|Integer|Long|String|StringBuilder)\\.\\w+").matcher(code);
    while (calls.find()) {
      Check.due(calls.group() + " is of the library that may be used", CALLED.contains(calls.group()), true);
    }
  }

  /** Rule 11: a method is what begins and ends with two blanks ahead, or four inside a class. */
  private static void methods(String code) {
    Pattern method = Pattern.compile("(?ms)^( {2}| {4})[a-zA-Z][\\w\\[\\] ]*\\w\\(([^)]*)\\) \\{\n(.*?)^\\1\\}$");
    Matcher methods = method.matcher(code);
    int many = 0;
    while (methods.find()) {
      many++;
      String head = methods.group().lines().findFirst().orElse("");
      Check.due(head + " is short", methods.group(3).lines().count() <= 60, true);
      int parameters = methods.group(2).isBlank() ? 0 : methods.group(2).split(",").length;
      Check.due(head + " has at most seven parameters", parameters <= 7, true);
    }
    Check.due("methods were found", many > 100, true);
  }
}
