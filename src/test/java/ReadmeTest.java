import java.lang.reflect.Field;
import java.lang.reflect.Method;
import java.lang.reflect.Modifier;
import java.nio.file.Files;
import java.nio.file.Path;
import java.util.List;
import java.util.regex.Matcher;
import java.util.regex.Pattern;

/** README.md is held against the class: each call with an answer behind it, each constant, each text of its tables. */
public final class ReadmeTest extends Kit {
  private static final Pattern CALL = Pattern.compile("x\\.(\\w+)\\((.*)\\); +// ([A-Z]+|-?\\d+): .*");
  private static final Pattern CONSTANT = Pattern.compile("\\| `([A-Z]+)` \\| (-?\\d+) \\|.*");
  private static final Pattern TEXT = Pattern.compile("\\| `([^`]*)` \\| (-?\\d+) \\|.*");

  public static void main(String[] args) throws Exception {
    List<String> lines = Files.readAllLines(Path.of("README.md"));
    calls(lines);
    constants(lines);
    texts(lines);
    allCallsAreNamed(String.join("\n", lines));
    end();
  }

  private static void calls(List<String> lines) throws Exception {
    DownAsUp x = null;
    int shown = 0;
    for (String line : lines) {
      if (line.equals("DownAsUp x = new DownAsUp();")) x = new DownAsUp();
      boolean isCall = line.startsWith("x.");
      Matcher m = CALL.matcher(line);
      due("a call with its answer behind it: " + line, m.matches() ? 1 : 0, isCall ? 1 : 0);
      if (!isCall) continue;
      shown++;
      due("README: " + line, ask(x, m.group(1), m.group(2)), answer(m.group(3)));
    }
    due("README shows calls", shown > 20 ? 1 : 0, 1);
  }

  private static int ask(DownAsUp x, String name, String list) throws Exception {
    String[] numbers = list.isEmpty() ? new String[0] : list.split(", ");
    for (Method m : DownAsUp.class.getMethods()) {
      if (!m.getName().equals(name) || m.getParameterCount() != numbers.length) continue;
      Object[] values = new Object[numbers.length];
      for (int i = 0; i < values.length; i++) {
        long v = Long.parseLong(numbers[i]);
        if (m.getParameterTypes()[i] == int.class) values[i] = (int) v;
        else values[i] = v;
      }
      return (int) m.invoke(x, values);
    }
    throw new IllegalArgumentException("no call " + name + " of " + numbers.length);
  }

  private static int answer(String text) throws Exception {
    return Character.isLetter(text.charAt(0)) ? DownAsUp.class.getField(text).getInt(null) : Integer.parseInt(text);
  }

  private static void constants(List<String> lines) throws Exception {
    int shown = 0;
    for (String line : lines) {
      Matcher m = CONSTANT.matcher(line);
      if (!m.matches()) continue;
      shown++;
      due("README: " + line, answer(m.group(1)), answer(m.group(2)));
    }
    int there = 0;
    for (Field f : DownAsUp.class.getFields()) if (Modifier.isStatic(f.getModifiers())) there++;
    due("README shows each constant", shown, there);
  }

  private static void texts(List<String> lines) {
    String head = "";
    int shown = 0;
    for (String line : lines) {
      if (line.startsWith("| text of")) head = line;
      if (!line.startsWith("|")) head = "";
      Matcher m = TEXT.matcher(line);
      if (head.isEmpty() || !m.matches()) continue;
      shown++;
      int got = head.startsWith("| text of people") ? peopleAnswer(m.group(1)) : townAnswer(m.group(1));
      due("README: " + line, got, Integer.parseInt(m.group(2)));
    }
    due("README shows texts", shown > 15 ? 1 : 0, 1);
  }

  private static int peopleAnswer(String text) {
    DownAsUp x = townOf("h1,h1");
    type(x, text);
    return x.people();
  }

  private static void allCallsAreNamed(String page) {
    for (Method m : DownAsUp.class.getDeclaredMethods()) {
      if (!Modifier.isPublic(m.getModifiers())) continue;
      boolean isNamed = Pattern.compile("`" + m.getName() + "\\([a-z, ]*\\)`").matcher(page).find();
      due("README tells what " + m.getName() + "() is for", isNamed ? 1 : 0, 1);
    }
  }
}
