import java.lang.reflect.Method;
import java.nio.file.Files;
import java.nio.file.Path;
import java.util.List;
import java.util.Set;
import java.util.TreeSet;
import java.util.regex.Matcher;
import java.util.regex.Pattern;
import java.util.stream.Collectors;
import java.util.stream.Stream;

/** What README.md says is so: its example, its table of calls, and its list of tests. */
public final class ReadmeTest {
  private static final Pattern CALL = Pattern.compile("shop\\.(\\w+)\\(([^)]*)\\);\\s*// (-?\\w+): .*");
  private static final Pattern ROW = Pattern.compile("\\| `(\\w+)\\(([^)]*)\\)` \\|.*");
  private static final Pattern TEST = Pattern.compile("- `(\\w+Test)`: .*");

  private static int wrong = 0;

  public static void main(String[] args) throws Exception {
    List<String> lines = Files.readAllLines(Path.of("README.md"));
    example(lines);
    due("calls in the table", matches(lines, ROW), face());
    due("tests in the list", matches(lines, TEST), tests());
    System.out.println(wrong == 0 ? "all of it is so" : wrong + " things are not so");
    if (wrong != 0) {
      System.exit(1);
    }
  }

  private static void due(String what, Object got, Object want) {
    if (!got.equals(want)) {
      wrong++;
      System.out.println("README.md: " + what + ": it says " + got + ", but there is " + want);
    }
  }

  private static void example(List<String> lines) throws Exception {
    FloorShop shop = new FloorShop();
    Set<String> used = new TreeSet<>();
    for (String line : lines) {
      Matcher call = CALL.matcher(line);
      if (call.matches()) {
        used.add(call.group(1));
        due(line, call.group(3), answer(shop, call.group(1), call.group(2)));
      } else {
        due("a line of the example that can't be read", line.startsWith("shop."), false);
      }
    }
    due("calls in the example", used, face());
  }

  private static String answer(FloorShop shop, String name, String list) throws Exception {
    String[] words = list.isEmpty() ? new String[0] : list.split(", ");
    for (Method method : FloorShop.class.getMethods()) {
      if (method.getName().equals(name)) {
        Object[] values = new Object[words.length];
        for (int i = 0; i < words.length; i++) {
          values[i] = words[i].matches("true|false") ? (Object) Boolean.valueOf(words[i]) : Integer.valueOf(words[i]);
        }
        return String.valueOf(method.invoke(shop, values));
      }
    }
    return "no such call";
  }

  private static Set<String> matches(List<String> lines, Pattern pattern) {
    return lines.stream().map(pattern::matcher).filter(Matcher::matches).map(found -> found.group(1))
        .collect(Collectors.toCollection(TreeSet::new));
  }

  private static Set<String> face() {
    return Stream.of(FloorShop.class.getMethods()).filter(method -> method.getDeclaringClass() == FloorShop.class)
        .map(Method::getName).collect(Collectors.toCollection(TreeSet::new));
  }

  private static Set<String> tests() throws Exception {
    try (Stream<Path> files = Files.list(Path.of("src/test/java"))) {
      return files.map(file -> file.getFileName().toString().replace(".java", ""))
          .collect(Collectors.toCollection(TreeSet::new));
    }
  }
}
