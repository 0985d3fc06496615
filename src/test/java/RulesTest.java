import java.io.IOException;
import java.lang.management.ManagementFactory;
import java.lang.reflect.Field;
import java.lang.reflect.Method;
import java.lang.reflect.Modifier;
import java.nio.file.Files;
import java.nio.file.Path;
import java.util.Arrays;
import java.util.Set;
import java.util.TreeSet;
import java.util.regex.Matcher;
import java.util.regex.Pattern;

/** The face of the class, the rules of LANGUAGE.md that can be seen in its text, and how much a run makes. */
public final class RulesTest {
  private static final String[] FACE = {
    "part(int,int,int,int,int)", "told(int,int)", "stand(int)", "person(int)", "set(int,int)", "want(int)", "type(long,int)",
    "town()", "people()", "count(int)", "may(int,int)", "week(int,int)", "can(int)", "more()", "carry(int,int)",
    "build(int,int)", "worth(int,int)", "image()", "restore()", "judged(int,int,int,int)", "wrong(int,int,int,int,int)",
    "sheet(int,int,int)", "drop(int)", "item(int,int,int,long)", "film(int,int,int)", "copy(int,int,int,int,int)"
  };
  private static final Set<String> CONSTANTS =
      Set.of("BAD=-1", "NOT=-2", "FULL=-3", "NONE=-4", "NULL=-11", "CAST=-12", "INDEX=-13", "SIZE=-14");

  private static int wrong = 0;

  private static void check(String what, boolean holds) {
    if (!holds) {
      wrong++;
      System.out.println("not so: " + what);
    }
  }

  public static void main(String[] args) throws Exception {
    face();
    nested();
    text();
    room();
    System.out.println(wrong == 0 ? "the rules are kept" : wrong + " rules are not kept");
    if (wrong != 0) System.exit(1);
  }

  private static void face() throws Exception {
    Class<?> c = DownAsUp.class;
    check("public and final", Modifier.isPublic(c.getModifiers()) && Modifier.isFinal(c.getModifiers()));
    Set<String> methods = new TreeSet<>(), names = new TreeSet<>();
    for (Method m : c.getDeclaredMethods()) {
      if (Modifier.isPrivate(m.getModifiers())) continue;
      methods.add(signature(m));
      names.add(m.getName());
      check(m + " is public and answers an int", Modifier.isPublic(m.getModifiers()) && m.getReturnType() == int.class);
    }
    check("the methods are those of the document", methods.equals(new TreeSet<>(Arrays.asList(FACE))));
    for (Method m : c.getDeclaredMethods())
      check(m + " bears no public name", !Modifier.isPrivate(m.getModifiers()) || !names.contains(m.getName()));
    for (Class<?> inner : c.getDeclaredClasses())
      for (Method m : inner.getDeclaredMethods()) check(m + " bears no public name", !names.contains(m.getName()));
    Set<String> constants = new TreeSet<>();
    for (Field f : c.getDeclaredFields())
      if (!Modifier.isPrivate(f.getModifiers())) constants.add(f.getName() + "=" + f.get(null));
    check("the constants are those of the document", constants.equals(CONSTANTS));
    check("one public constructor", c.getDeclaredConstructors().length == 1 && c.getConstructors().length == 1);
  }

  private static String signature(Method m) {
    StringBuilder s = new StringBuilder(m.getName()).append('(');
    for (Class<?> p : m.getParameterTypes()) s.append(s.charAt(s.length() - 1) == '(' ? "" : ",").append(p.getName());
    return s.append(')').toString();
  }

  private static void nested() {
    Class<?>[] all = DownAsUp.class.getDeclaredClasses();
    check("at most twelve classes", all.length < 12);
    for (Class<?> c : all) {
      check(c + " is static", Modifier.isStatic(c.getModifiers()));
      check(c + " is not public", !Modifier.isPublic(c.getModifiers()) && !Modifier.isProtected(c.getModifiers()));
      int fields = 0;
      for (Field f : c.getDeclaredFields()) {
        if (!Modifier.isStatic(f.getModifiers())) fields++;
        else check(f + " is final", Modifier.isFinal(f.getModifiers()));
      }
      check(c + " has at most twenty fields", fields <= 20);
      for (Method m : c.getDeclaredMethods()) check(m + " takes at most seven", m.getParameterCount() <= 7);
    }
  }

  private static void text() throws IOException {
    String source = Files.readString(Path.of("src/main/java/DownAsUp.java"));
    String code = source.replaceAll("(?s)/\\*.*?\\*/", " ").replaceAll("//[^\n]*", " ");
    String[] none = {
      "\\bthrow\\b", "\\bthrows\\b", "\\btry\\b", "\\bcatch\\b", "\\bsynchronized\\b", "\\bassert\\b", "->", "::", "\\bpackage\\b",
      "\\bSystem\\.(?!arraycopy)", "\\bRandom\\b", "\\bThread\\b", "Exact\\b", "\\bstatic\\s*\\{", "\\bObject\\b", "\\bvar\\b",
      "\\bInteger\\.(?!bitCount)", "\\.hashCode\\(", "\\.toString\\("
    };
    for (String s : none) check("no " + s, !Pattern.compile(s).matcher(code).find());
    Matcher imports = Pattern.compile("import ([^;]*);").matcher(code);
    while (imports.find()) check("import " + imports.group(1), imports.group(1).equals("java.util.Arrays"));
    check("signs are plain", source.chars().allMatch(ch -> ch == '\n' || ch >= 32 && ch < 127));
    int start = 0, at = 0;
    for (String line : source.split("\n")) {
      at++;
      if (line.matches(" {4}( {4})?[a-z].*\\) \\{")) start = at;
      if (line.matches(" {4}( {4})?\\}")) check("the method from line " + start + " on is short", at - start <= 60);
    }
  }

  /** 512 of the dearest calls, each on a changed town, must make next to nothing. */
  private static void room() {
    com.sun.management.ThreadMXBean bean = (com.sun.management.ThreadMXBean) ManagementFactory.getThreadMXBean();
    long id = Thread.currentThread().getId();
    run(new DownAsUp());
    long before = bean.getThreadAllocatedBytes(id);
    DownAsUp x = new DownAsUp();
    long made = bean.getThreadAllocatedBytes(id);
    run(x);
    long after = bean.getThreadAllocatedBytes(id);
    check("a new object is small: " + (made - before), made - before < 40_000);
    check("a run makes little: " + (after - made), after - made < 600_000);
  }

  private static void run(DownAsUp x) {
    for (int i = 0; i < 8; i++) x.part(i % 3, 5 + 3 * i, 10 * i, i % 4, 0);
    x.stand(15);
    x.person(3);
    x.set(1, 30);
    x.sheet(0, 2, 24);
    for (int i = 0; i < 100; i++) {
      x.set(0, i % 7);
      x.want(1 + i * 7 % 255);
      x.can(-1);
      x.worth(i % 4, 0);
      x.carry(3, 240);
    }
  }
}
