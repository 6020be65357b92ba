import java.util.Random;

/** Regexes of chance, most of them without a fault, many at the edges of what is wanted. */
final class RegexMaker {
  private RegexMaker() {}

  static String regex(Random random, String signs) {
    String regex = random.nextInt(4) == 0 ? words(random, signs) : alt(random, signs, 1 + random.nextInt(4));
    if (random.nextInt(40) == 0) {
      regex = withCore(random, signs);
    }
    if (random.nextInt(6) == 0) {
      regex = spoiled(random, regex);
    }
    if (random.nextInt(30) == 0) {
      regex = nested(random, regex);
    }
    return regex.length() > 82 ? regex.substring(0, 78 + random.nextInt(5)) : regex;
  }

  /** A row of signs that a short regex over the same signs is likely to match. */
  static String matching(Random random, String signs) {
    StringBuilder text = new StringBuilder();
    String word = word(random, signs, 1 + random.nextInt(4));
    int times = 1 + random.nextInt(random.nextInt(4) == 0 ? 25 : 3);
    for (int i = 0; i < times; i++) {
      text.append(word);
    }
    return text.toString();
  }

  private static String oneOf(Random random, String... all) {
    return all[random.nextInt(all.length)];
  }

  private static String word(Random random, String signs, int length) {
    StringBuilder word = new StringBuilder();
    for (int i = 0; i < length; i++) {
      word.append(escaped(signs.charAt(random.nextInt(signs.length()))));
    }
    return word.toString();
  }

  private static String escaped(char c) {
    return "\\|*+?{}()[].^$".indexOf(c) >= 0 ? "\\" + c : "" + c;
  }

  /** Groups of many words side by side: more texts, heads, tails and choices than there may be. */
  private static String words(Random random, String signs) {
    StringBuilder regex = new StringBuilder();
    int groups = 1 + random.nextInt(4);
    int words = 1 + random.nextInt(12);
    int length = 1 + random.nextInt(5);
    for (int g = 0; g < groups; g++) {
      regex.append('(');
      for (int w = 0; w < words; w++) {
        regex.append(w == 0 ? "" : "|").append(random.nextInt(6) == 0 ? word(random, signs, 1)
            : word(random, signs, length));
        if (random.nextInt(9) == 0) {
          regex.append(random.nextBoolean() ? "." : "x?");
        }
      }
      regex.append(')');
      regex.append(oneOf(random, "", "", "", "+", "?", "{2}", "{0,2}", "{3}", ".*", ".", "[a-d]"));
    }
    return regex.toString();
  }

  /** Two times some 24 choices that all have the same word. */
  private static String withCore(Random random, String signs) {
    String word = word(random, signs, 2 + random.nextInt(3));
    String last = "." + (random.nextBoolean() ? "[p-r]" : "[pq]") + word(random, signs, 2);
    return word + ".x[a-h]y" + last + "|" + word + ".x[i-p]y" + last;
  }

  private static String alt(Random random, String signs, int depth) {
    StringBuilder regex = new StringBuilder(cat(random, signs, depth));
    int more = random.nextInt(3) == 0 ? 1 + random.nextInt(5) : 0;
    for (int i = 0; i < more; i++) {
      regex.append('|').append(cat(random, signs, depth));
    }
    return regex.toString();
  }

  private static String cat(Random random, String signs, int depth) {
    StringBuilder regex = new StringBuilder();
    int reps = random.nextInt(6);
    for (int i = 0; i < reps; i++) {
      regex.append(atom(random, signs, depth)).append(random.nextInt(3) == 0 ? count(random) : "");
    }
    return regex.toString();
  }

  private static String count(Random random) {
    int low = random.nextInt(random.nextInt(4) == 0 ? 21 : 4);
    int high = low + random.nextInt(random.nextInt(4) == 0 ? 22 - low : 3);
    switch (random.nextInt(8)) {
      case 0:
        return "*";
      case 1:
        return "+";
      case 2:
      case 3:
        return "?";
      case 4:
        return "{" + low + "}";
      case 5:
        return "{" + low + ",}";
      case 6:
        return "{" + (low < 10 && random.nextBoolean() ? "0" : "") + low + "," + high + "}";
      default:
        return "{" + low + "," + high + "}";
    }
  }

  private static String atom(Random random, String signs, int depth) {
    switch (random.nextInt(depth > 0 ? 16 : 11)) {
      case 0:
        return oneOf(random, ".", "^", "$", "\\b");
      case 1:
        return oneOf(random, "\\n", "\\t", "\\d", "\\w", "\\s", "\\-", "\\.", "\\_", "\\ ", "\\\\");
      case 2:
      case 3:
        return bracket(random, signs);
      case 4: case 5: case 6: case 7: case 8: case 9: case 10:
        return escaped(signs.charAt(random.nextInt(signs.length())));
      default:
        return "(" + alt(random, signs, depth - 1) + ")";
    }
  }

  private static String bracket(Random random, String signs) {
    StringBuilder regex = new StringBuilder(random.nextInt(5) == 0 ? "[^" : "[");
    int pieces = 1 + random.nextInt(5);
    for (int i = 0; i < pieces; i++) {
      int kind = random.nextInt(12);
      if (kind == 0) {
        regex.append(oneOf(random, "\\d", "\\w", "\\s"));
      } else if (kind == 1) {
        regex.append(oneOf(random, "\\n", "\\t", "\\-", "\\]", "\\^", "\\\\", "[", "(", ".", "$", "}"));
      } else if (kind == 2) {
        char low = (char) (32 + random.nextInt(95));
        char high = (char) (low + random.nextInt(Math.min(127 - low, 14)));
        regex.append(one(low)).append('-').append(one(high));
      } else if (kind == 3) {
        regex.append(oneOf(random, "a-c", "a-h", "a-l", "a-m", "a-n", "A-z", "0-9", "\\t-\\n", " -~"));
      } else {
        regex.append(one(signs.charAt(random.nextInt(signs.length()))));
      }
    }
    return regex.append(']').toString();
  }

  private static String one(char c) {
    return "\\]-^".indexOf(c) >= 0 ? "\\" + c : "" + c;
  }

  /** Some bytes of it changed, gone, or put in: most of these regexes have a fault. */
  private static String spoiled(Random random, String regex) {
    StringBuilder changed = new StringBuilder(regex);
    String strange = "()[]{}|*+?^$.\\-,0123456789abntdwsqz~ \u0001\n\u007f\u0080\u00ff";
    int changes = 1 + random.nextInt(3);
    for (int i = 0; i < changes; i++) {
      int place = random.nextInt(changed.length() + 1);
      char c = strange.charAt(random.nextInt(strange.length()));
      switch (random.nextInt(4)) {
        case 0:
          changed.insert(place, c);
          break;
        case 1:
          changed.insert(place, oneOf(random, "{2", "{2,1}", "{21", "{5,3", "{15,1", "[b-a", "[z-\\", "{123}", "{201}",
              "{3,123}", "{,2}", "{}", "[a-\\d]", "[\\d-z]", "[^]", "[^-", "((", "()", "(|)", "[a-]"));
          break;
        case 2:
          if (place < changed.length()) {
            changed.setCharAt(place, c);
          }
          break;
        default:
          changed.setLength(place);
          break;
      }
    }
    return changed.toString();
  }

  private static String nested(Random random, String regex) {
    StringBuilder nested = new StringBuilder(regex.length() > 40 ? regex.substring(0, 40) : regex);
    int times = 8 + random.nextInt(5);
    for (int i = 0; i < times; i++) {
      nested.insert(0, '(').append(')').append(oneOf(random, "", "", "", "*", "?", "+", "{0}", "{2}"));
    }
    return nested.toString();
  }
}
